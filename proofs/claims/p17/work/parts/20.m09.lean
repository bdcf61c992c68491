set_option maxRecDepth 20000 in
theorem zb_X11_digest_113 {N : Nat} {sh : Sh} {r : Int32 × Dt} {E : EV} (hE : TG E (some (.int r.1)) (sh, r.2))  {l0 : Nat} {l1 : Int32} {d : Dt} (hf : f_X11_digest_113 N sh l0 l1 d = some r) : Z E yX11_digest cX11_digest 5 (some .int) 5 (sh, d) 113 [(0, .ref l0), (1, .int l1)] [] := by
  unfold f_X11_digest_113 at hf
  refine z_aload_n 0 dX11_digest_113 rfl rfl ?_
  refine z_gP (ci := 11) (k := 1) (C := RX11) (T := TX11) (N := 14) rfl inlX11 (by decide) mw_1_19 (fun _ _ _ _ h9 => h9) hf (by decide) rfl dX11_digest_114  (fun v15 hf => ?_)
  refine z_gP (ci := 1) (k := 3) (C := RX1) (T := TX1) (N := 8) rfl inlX1 (by decide) mw_29_16 (fun _ _ _ _ h9 => h9) hf (by decide) rfl dX11_digest_117  (fun v16 hf => ?_)
  refine z_iload_n 1 dX11_digest_120 rfl rfl ?_
  obtain ⟨v17, ev17, hf⟩ := ob hf
  refine z_cVi (ci := 8) (T := TX8) (N := 2) (As := [.int l1]) (rest := []) (zm_X8_digestOf ev17).2 (zm_X8_digestOf ev17).1 (by decide) rfl (Or.inl rfl) mw_58_0 mw_58_1 mw_58_2 mw_3_13 mw_58_3 yk_X8_digestOf (by decide) (by decide) rfl (Nat.le_of_ble_eq_true rfl) rfl dX11_digest_121 ?_
  refine z_istore_n [(1, .int v17), (0, .ref l0)] dX11_digest_124 rfl (by decide) rfl ?_
  refine z_aload_n 1 dX11_digest_125 rfl rfl ?_
  refine z_aload_n 1 dX11_digest_126 rfl rfl ?_
  refine z_gP (ci := 11) (k := 1) (C := RX11) (T := TX11) (N := 14) rfl inlX11 (by decide) mw_1_19 (fun _ _ _ _ h9 => h9) hf (by decide) rfl dX11_digest_127  (fun v18 hf => ?_)
  refine z_gP (ci := 1) (k := 4) (C := RX1) (T := TX1) (N := 8) rfl inlX1 (by decide) mw_43_7 (fun _ _ _ _ h9 => h9) hf (by decide) rfl dX11_digest_130  (fun v19 hf => ?_)
  refine z_iload_n 0 dX11_digest_133 rfl rfl ?_
  obtain ⟨v20, ev20, hf⟩ := ob hf
  refine z_cVi (ci := 8) (T := TX8) (N := 2) (As := [.int v17]) (rest := [.ref l0]) (zm_X8_digestOf ev20).2 (zm_X8_digestOf ev20).1 (by decide) rfl (Or.inl rfl) mw_58_0 mw_58_1 mw_58_2 mw_3_13 mw_58_3 yk_X8_digestOf (by decide) (by decide) rfl (Nat.le_of_ble_eq_true rfl) rfl dX11_digest_134 ?_
  obtain ⟨v21, ev21, hf⟩ := ob hf
  refine z_cVi (ci := 11) (T := TX11) (N := 14) (As := [.int v20]) (rest := []) (zm_X11_answer ev21).2 (zm_X11_answer ev21).1 (by decide) rfl (Or.inl rfl) mw_11_2 mw_11_3 mw_11_4 mw_1_2 mw_11_5 yk_X11_answer (by decide) (by decide) rfl (Nat.le_of_ble_eq_true rfl) rfl dX11_digest_137 ?_
  cases hf
  exact z_ireturn hE rfl dX11_digest_140
set_option maxRecDepth 20000 in
theorem zb_X11_digest_107 {N : Nat} {sh : Sh} {k26 : Nat → Int32 → Int32 → Dt → Option (Int32 × Dt)} {r : Int32 × Dt} {E : EV} (hE : TG E (some (.int r.1)) (sh, r.2)) (hk26 : ∀ (l0 : Nat) (l1 : Int32) (l2 : Int32) (d : Dt), k26 l0 l1 l2 d = some r → Z E yX11_digest cX11_digest 5 (some .int) 5 (sh, d) 26 [(0, .ref l0), (1, .int l1), (2, .int l2)] []) {l0 : Nat} {l1 : Int32} {l2 : Int32} {d : Dt} (hf : f_X11_digest_107 N sh k26 l0 l1 l2 d = some r) : Z E yX11_digest cX11_digest 5 (some .int) 5 (sh, d) 107 [(0, .ref l0), (1, .int l1), (2, .int l2)] [] := by
  unfold f_X11_digest_107 at hf
  refine z_iinc [(2, .int (l2 + 1)), (0, .ref l0), (1, .int l1)] 2 (l2 + 1) dX11_digest_107 rfl rfl (by decide) rfl ?_
  refine z_goto 26 dX11_digest_110 (by decide) ?_
  refine z_lv [(0, .ref l0), (1, .int l1), (2, .int (l2 + 1))] [1, 2, 0] rfl ?_
  exact hk26 _ _ _ _ hf
set_option maxRecDepth 20000 in
theorem zg_X11_digest_79 {N : Nat} {sh : Sh} {k26 : Nat → Int32 → Int32 → Dt → Option (Int32 × Dt)} {r : Int32 × Dt} {k79 : Nat → Int32 → Int32 → Int32 → Int32 → Dt → Option (Int32 × Dt)} {E : EV} (hE : TG E (some (.int r.1)) (sh, r.2)) (hk26 : ∀ (l0 : Nat) (l1 : Int32) (l2 : Int32) (d : Dt), k26 l0 l1 l2 d = some r → Z E yX11_digest cX11_digest 5 (some .int) 5 (sh, d) 26 [(0, .ref l0), (1, .int l1), (2, .int l2)] []) (hk79 : ∀ (l0 : Nat) (l1 : Int32) (l2 : Int32) (l3 : Int32) (l4 : Int32) (d : Dt), k79 l0 l1 l2 l3 l4 d = some r → Z E yX11_digest cX11_digest 5 (some .int) 5 (sh, d) 79 [(0, .ref l0), (1, .int l1), (2, .int l2), (3, .int l3), (4, .int l4)] []) {l0 : Nat} {l1 : Int32} {l2 : Int32} {l3 : Int32} {l4 : Int32} {d : Dt} (hf : g_X11_digest_79 N sh k26 k79 l0 l1 l2 l3 l4 d = some r) : Z E yX11_digest cX11_digest 5 (some .int) 5 (sh, d) 79 [(0, .ref l0), (1, .int l1), (2, .int l2), (3, .int l3), (4, .int l4)] [] := by
  unfold g_X11_digest_79 at hf
  refine z_iload 4 dX11_digest_79 rfl ?_
  refine z_iload_n 3 dX11_digest_81 rfl rfl ?_
  refine z_icmp_ge 107 hf dX11_digest_82 (by decide) (fun hf => ?_) (fun hf => ?_)
  · refine z_lv [(0, .ref l0), (1, .int l1), (2, .int l2)] [0, 1, 2] rfl ?_
    exact zb_X11_digest_107 hE hk26 hf
  · refine z_bipush 31 31 dX11_digest_85 (by decide) ?_
    refine z_iload_n 1 dX11_digest_87 rfl rfl ?_
    refine z_imul dX11_digest_88 ?_
    refine z_aload_n 0 dX11_digest_89 rfl rfl ?_
    refine z_gP (ci := 11) (k := 1) (C := RX11) (T := TX11) (N := 14) rfl inlX11 (by decide) mw_1_19 (fun _ _ _ _ h9 => h9) hf (by decide) rfl dX11_digest_90  (fun v22 hf => ?_)
    refine z_iload_n 2 dX11_digest_93 rfl rfl ?_
    refine z_iload 4 dX11_digest_94 rfl ?_
    obtain ⟨v23, ev23, hf⟩ := ob hf
    refine z_cVi (ci := 1) (T := TX1) (N := 8) (As := [.int l2, .int l4]) (rest := [.int ((31 : Int32) * l1)]) (zm_X1_tenths ev23).2 (zm_X1_tenths ev23).1 (by decide) rfl (Or.inl rfl) mw_24_2 mw_24_3 mw_24_4 mw_1_18 mw_24_5 yk_X1_tenths (by decide) (by decide) rfl (Nat.le_of_ble_eq_true rfl) rfl dX11_digest_96 ?_
    refine z_iadd dX11_digest_99 ?_
    refine z_istore_n [(1, .int (((31 : Int32) * l1) + v23)), (0, .ref l0), (2, .int l2), (3, .int l3), (4, .int l4)] dX11_digest_100 rfl (by decide) rfl ?_
    refine z_iinc [(4, .int (l4 + 1)), (1, .int (((31 : Int32) * l1) + v23)), (0, .ref l0), (2, .int l2), (3, .int l3)] 4 (l4 + 1) dX11_digest_101 rfl rfl (by decide) rfl ?_
    refine z_goto 79 dX11_digest_104 (by decide) ?_
    refine z_lv [(0, .ref l0), (1, .int (((31 : Int32) * l1) + v23)), (2, .int l2), (3, .int l3), (4, .int (l4 + 1))] [2, 1, 3, 4, 0] rfl ?_
    exact hk79 _ _ _ _ _ _ hf
set_option maxRecDepth 20000 in
theorem zb_X11_digest_79 {N : Nat} {sh : Sh} {k26 : Nat → Int32 → Int32 → Dt → Option (Int32 × Dt)} {r : Int32 × Dt} {E : EV} (hE : TG E (some (.int r.1)) (sh, r.2)) (hk26 : ∀ (l0 : Nat) (l1 : Int32) (l2 : Int32) (d : Dt), k26 l0 l1 l2 d = some r → Z E yX11_digest cX11_digest 5 (some .int) 5 (sh, d) 26 [(0, .ref l0), (1, .int l1), (2, .int l2)] []) : ∀ (n : Nat) (l0 : Nat) (l1 : Int32) (l2 : Int32) (l3 : Int32) (l4 : Int32) (d : Dt), f_X11_digest_79 N sh k26 n l0 l1 l2 l3 l4 d = some r → Z E yX11_digest cX11_digest 5 (some .int) 5 (sh, d) 79 [(0, .ref l0), (1, .int l1), (2, .int l2), (3, .int l3), (4, .int l4)] [] := by
  intro n
  induction n with
  | zero => intro l0 l1 l2 l3 l4 d hf; cases hf
  | succ n ih => intro l0 l1 l2 l3 l4 d hf; exact zg_X11_digest_79 hE hk26 ih hf
set_option maxRecDepth 20000 in
theorem zg_X11_digest_26 {N : Nat} {sh : Sh} {r : Int32 × Dt} {k26 : Nat → Int32 → Int32 → Dt → Option (Int32 × Dt)} {E : EV} (hE : TG E (some (.int r.1)) (sh, r.2))  (hk26 : ∀ (l0 : Nat) (l1 : Int32) (l2 : Int32) (d : Dt), k26 l0 l1 l2 d = some r → Z E yX11_digest cX11_digest 5 (some .int) 5 (sh, d) 26 [(0, .ref l0), (1, .int l1), (2, .int l2)] []) {l0 : Nat} {l1 : Int32} {l2 : Int32} {d : Dt} (hf : g_X11_digest_26 N sh k26 l0 l1 l2 d = some r) : Z E yX11_digest cX11_digest 5 (some .int) 5 (sh, d) 26 [(0, .ref l0), (1, .int l1), (2, .int l2)] [] := by
  unfold g_X11_digest_26 at hf
  refine z_iload_n 2 dX11_digest_26 rfl rfl ?_
  refine z_aload_n 0 dX11_digest_27 rfl rfl ?_
  refine z_gP (ci := 11) (k := 1) (C := RX11) (T := TX11) (N := 14) rfl inlX11 (by decide) mw_1_19 (fun _ _ _ _ h9 => h9) hf (by decide) rfl dX11_digest_28  (fun v6 hf => ?_)
  refine z_gP (ci := 1) (k := 2) (C := RX1) (T := TX1) (N := 8) rfl inlX1 (by decide) mw_19_21 (fun _ _ _ _ h9 => h9) hf (by decide) rfl dX11_digest_31  (fun v7 hf => ?_)
  refine z_gI (ci := 8) (k := 1) (C := RX8) (T := TX8) (N := 2) rfl inlX8 (by decide) mw_12_13 (fun _ _ _ _ h9 => h9) hf (by decide) rfl dX11_digest_34  (fun v8 hf => ?_)
  refine z_icmp_ge 113 hf dX11_digest_37 (by decide) (fun hf => ?_) (fun hf => ?_)
  · refine z_lv [(0, .ref l0), (1, .int l1)] [0, 1] rfl ?_
    exact zb_X11_digest_113 hE hf
  · refine z_aload_n 0 dX11_digest_40 rfl rfl ?_
    refine z_gP (ci := 11) (k := 1) (C := RX11) (T := TX11) (N := 14) rfl inlX11 (by decide) mw_1_19 (fun _ _ _ _ h9 => h9) hf (by decide) rfl dX11_digest_41  (fun v9 hf => ?_)
    refine z_gP (ci := 1) (k := 2) (C := RX1) (T := TX1) (N := 8) rfl inlX1 (by decide) mw_19_21 (fun _ _ _ _ h9 => h9) hf (by decide) rfl dX11_digest_44  (fun v10 hf => ?_)
    refine z_iload_n 2 dX11_digest_47 rfl rfl ?_
    refine z_iconst 2 2 dX11_digest_48 (by decide) ?_
    obtain ⟨v11, ev11, hf⟩ := ob hf
    refine z_cVi (ci := 8) (T := TX8) (N := 2) (As := [.int l2, .int (2 : Int32)]) (rest := []) (zm_X8_get ev11).2 (zm_X8_get ev11).1 (by decide) rfl (Or.inl rfl) mw_14_2 mw_10_11 mw_10_12 mw_3_13 mw_10_13 yk_X8_get (by decide) (by decide) rfl (Nat.le_of_ble_eq_true rfl) rfl dX11_digest_49 ?_
    refine z_istore_n [(3, .int v11), (0, .ref l0), (1, .int l1), (2, .int l2)] dX11_digest_52 rfl (by decide) rfl ?_
    refine z_bipush 31 31 dX11_digest_53 (by decide) ?_
    refine z_bipush 31 31 dX11_digest_55 (by decide) ?_
    refine z_iload_n 2 dX11_digest_57 rfl rfl ?_
    refine z_imul dX11_digest_58 ?_
    refine z_aload_n 1 dX11_digest_59 rfl rfl ?_
    refine z_gP (ci := 11) (k := 1) (C := RX11) (T := TX11) (N := 14) rfl inlX11 (by decide) mw_1_19 (fun _ _ _ _ h9 => h9) hf (by decide) rfl dX11_digest_60  (fun v12 hf => ?_)
    refine z_gP (ci := 1) (k := 2) (C := RX1) (T := TX1) (N := 8) rfl inlX1 (by decide) mw_19_21 (fun _ _ _ _ h9 => h9) hf (by decide) rfl dX11_digest_63  (fun v13 hf => ?_)
    refine z_iload_n 3 dX11_digest_66 rfl rfl ?_
    refine z_iconst 0 0 dX11_digest_67 (by decide) ?_
    obtain ⟨v14, ev14, hf⟩ := ob hf
    refine z_cVi (ci := 8) (T := TX8) (N := 2) (As := [.int l2, .int (0 : Int32)]) (rest := [.int ((31 : Int32) * l1), .int (31 : Int32)]) (zm_X8_get ev14).2 (zm_X8_get ev14).1 (by decide) rfl (Or.inl rfl) mw_14_2 mw_10_11 mw_10_12 mw_3_13 mw_10_13 yk_X8_get (by decide) (by decide) rfl (Nat.le_of_ble_eq_true rfl) rfl dX11_digest_68 ?_
    refine z_iadd dX11_digest_71 ?_
    refine z_imul dX11_digest_72 ?_
    refine z_iload_n 0 dX11_digest_73 rfl rfl ?_
    refine z_iadd dX11_digest_74 ?_
    refine z_istore_n [(1, .int (((31 : Int32) * (((31 : Int32) * l1) + v14)) + v11)), (3, .int v11), (0, .ref l0), (2, .int l2)] dX11_digest_75 rfl (by decide) rfl ?_
    refine z_iconst 0 0 dX11_digest_76 (by decide) ?_
    refine z_istore [(4, .int (0 : Int32)), (1, .int (((31 : Int32) * (((31 : Int32) * l1) + v14)) + v11)), (3, .int v11), (0, .ref l0), (2, .int l2)] dX11_digest_77 (by decide) rfl ?_
    refine z_lv [(0, .ref l0), (1, .int (((31 : Int32) * (((31 : Int32) * l1) + v14)) + v11)), (2, .int l2), (3, .int v11), (4, .int (0 : Int32))] [3, 1, 4, 2, 0] rfl ?_
    exact zb_X11_digest_79 hE hk26 N _ _ _ _ _ _ hf
set_option maxRecDepth 20000 in
theorem zb_X11_digest_26 {N : Nat} {sh : Sh} {r : Int32 × Dt} {E : EV} (hE : TG E (some (.int r.1)) (sh, r.2))  : ∀ (n : Nat) (l0 : Nat) (l1 : Int32) (l2 : Int32) (d : Dt), f_X11_digest_26 N sh n l0 l1 l2 d = some r → Z E yX11_digest cX11_digest 5 (some .int) 5 (sh, d) 26 [(0, .ref l0), (1, .int l1), (2, .int l2)] [] := by
  intro n
  induction n with
  | zero => intro l0 l1 l2 d hf; cases hf
  | succ n ih => intro l0 l1 l2 d hf; exact zg_X11_digest_26 hE ih hf
set_option maxRecDepth 20000 in
theorem zm_X11_digest {N : Nat} {sh : Sh} {d : Dt} {l0 : Nat} {r : Int32 × Dt} (hf : f_X11_digest N sh l0 d = some r) : isO sh l0 11 ∧ ∀ (l : Launch) (G : GG), Mt l G yX11_digest cX11_digest 5 (some .int) 5 [.ref l0] (sh, d) (some (.int r.1)) (sh, r.2) := by
  have hf0 := hf
  unfold f_X11_digest at hf
  split at hf
  · rename_i hO
    refine ⟨hO, fun l G => mt_of (Or.inl (by decide)) (Nat.le_of_ble_eq_true rfl) Le.rf (fun E hE => ?_)⟩
    show Z E yX11_digest cX11_digest 5 (some .int) 5 (sh, d) 0 [(0, .ref l0)] []
    refine z_sipush 217 217 dX11_digest_0 (by decide) ?_
    refine z_aload_n 0 dX11_digest_3 rfl rfl ?_
    refine z_gP (ci := 11) (k := 1) (C := RX11) (T := TX11) (N := 14) rfl inlX11 (by decide) mw_1_19 (fun _ _ _ _ h9 => h9) hf (by decide) rfl dX11_digest_4  (fun v1 hf => ?_)
    refine z_gI (ci := 1) (k := 0) (C := RX1) (T := TX1) (N := 8) rfl inlX1 (by decide) mw_7_21 (fun _ _ _ _ h9 => h9) hf (by decide) rfl dX11_digest_7  (fun v2 hf => ?_)
    refine z_iadd dX11_digest_10 ?_
    refine z_istore_n [(1, .int ((217 : Int32) + v2)), (0, .ref l0)] dX11_digest_11 rfl (by decide) rfl ?_
    refine z_aload_n 1 dX11_digest_12 rfl rfl ?_
    refine z_gP (ci := 11) (k := 1) (C := RX11) (T := TX11) (N := 14) rfl inlX11 (by decide) mw_1_19 (fun _ _ _ _ h9 => h9) hf (by decide) rfl dX11_digest_13  (fun v3 hf => ?_)
    refine z_gP (ci := 1) (k := 1) (C := RX1) (T := TX1) (N := 8) rfl inlX1 (by decide) mw_12_12 (fun _ _ _ _ h9 => h9) hf (by decide) rfl dX11_digest_16  (fun v4 hf => ?_)
    refine z_iload_n 0 dX11_digest_19 rfl rfl ?_
    obtain ⟨v5, ev5, hf⟩ := ob hf
    refine z_cVi (ci := 8) (T := TX8) (N := 2) (As := [.int ((217 : Int32) + v2)]) (rest := []) (zm_X8_digestOf ev5).2 (zm_X8_digestOf ev5).1 (by decide) rfl (Or.inl rfl) mw_58_0 mw_58_1 mw_58_2 mw_3_13 mw_58_3 yk_X8_digestOf (by decide) (by decide) rfl (Nat.le_of_ble_eq_true rfl) rfl dX11_digest_20 ?_
    refine z_istore_n [(1, .int v5), (0, .ref l0)] dX11_digest_23 rfl (by decide) rfl ?_
    refine z_iconst 0 0 dX11_digest_24 (by decide) ?_
    refine z_istore_n [(2, .int (0 : Int32)), (1, .int v5), (0, .ref l0)] dX11_digest_25 rfl (by decide) rfl ?_
    refine z_lv [(0, .ref l0), (1, .int v5), (2, .int (0 : Int32))] [2, 1, 0] rfl ?_
    exact zb_X11_digest_26 hE N _ _ _ _ hf
  · cases hf
set_option maxRecDepth 20000 in
theorem zm_X1_nextDrive {N : Nat} {sh : Sh} {d : Dt} {l0 : Nat} {l1 : Int32} {r : Int32} (hf : f_X1_nextDrive N sh l0 l1 d = some r) : isO sh l0 1 ∧ ∀ (l : Launch) (G : GG), Mt l G yX1_nextDrive cX1_nextDrive 2 (some .int) 2 [.ref l0, .int l1] (sh, d) (some (.int r)) (sh, d) := by
  have hf0 := hf
  unfold f_X1_nextDrive at hf
  split at hf
  · rename_i hO
    refine ⟨hO, fun l G => mt_of (Or.inl (by decide)) (Nat.le_of_ble_eq_true rfl) Le.rf (fun E hE => ?_)⟩
    show Z E yX1_nextDrive cX1_nextDrive 2 (some .int) 2 (sh, d) 0 [(0, .ref l0), (1, .int l1)] []
    refine z_aload_n 0 dX1_nextDrive_0 rfl rfl ?_
    refine z_gP (ci := 1) (k := 3) (C := RX1) (T := TX1) (N := 8) rfl inlX1 (by decide) mw_3_16 (fun _ _ _ _ h9 => h9) hf (by decide) rfl dX1_nextDrive_1  (fun v1 hf => ?_)
    refine z_iload_n 1 dX1_nextDrive_4 rfl rfl ?_
    refine z_iconst 0 0 dX1_nextDrive_5 (by decide) ?_
    obtain ⟨v2, ev2, hf⟩ := ob hf
    refine z_cVi (ci := 8) (T := TX8) (N := 2) (As := [.int l1, .int (0 : Int32)]) (rest := []) (zm_X8_get ev2).2 (zm_X8_get ev2).1 (by decide) rfl (Or.inl rfl) mw_10_10 mw_10_11 mw_10_12 mw_3_13 mw_10_13 yk_X8_get (by decide) (by decide) rfl (Nat.le_of_ble_eq_true rfl) rfl dX1_nextDrive_6 ?_
    refine z_aload_n 0 dX1_nextDrive_9 rfl rfl ?_
    refine z_gP (ci := 1) (k := 3) (C := RX1) (T := TX1) (N := 8) rfl inlX1 (by decide) mw_3_16 (fun _ _ _ _ h9 => h9) hf (by decide) rfl dX1_nextDrive_10  (fun v3 hf => ?_)
    refine z_iload_n 1 dX1_nextDrive_13 rfl rfl ?_
    refine z_iconst 2 2 dX1_nextDrive_14 (by decide) ?_
    obtain ⟨v4, ev4, hf⟩ := ob hf
    refine z_cVi (ci := 8) (T := TX8) (N := 2) (As := [.int l1, .int (2 : Int32)]) (rest := [.int v2]) (zm_X8_get ev4).2 (zm_X8_get ev4).1 (by decide) rfl (Or.inl rfl) mw_10_10 mw_10_11 mw_10_12 mw_3_13 mw_10_13 yk_X8_get (by decide) (by decide) rfl (Nat.le_of_ble_eq_true rfl) rfl dX1_nextDrive_15 ?_
    refine z_iadd dX1_nextDrive_18 ?_
    cases hf
    exact z_ireturn hE rfl dX1_nextDrive_19
  · cases hf
set_option maxRecDepth 20000 in
theorem zm_X8_raise {N : Nat} {sh : Sh} {d : Dt} {l0 : Nat} {l1 : Int32} {l2 : Int32} {l3 : Int32} {r : Dt} (hf : f_X8_raise N sh l0 l1 l2 l3 d = some r) : isO sh l0 8 ∧ ∀ (l : Launch) (G : GG), Mt l G yX8_raise cX8_raise 4 none 2 [.ref l0, .int l1, .int l2, .int l3] (sh, d) none (sh, r) := by
  have hf0 := hf
  unfold f_X8_raise at hf
  split at hf
  · rename_i hO
    refine ⟨hO, fun l G => mt_of (Or.inl (by decide)) (Nat.le_of_ble_eq_true rfl) Le.rf (fun E hE => ?_)⟩
    show Z E yX8_raise cX8_raise 4 none 2 (sh, d) 0 [(0, .ref l0), (1, .int l1), (2, .int l2), (3, .int l3)] []
    refine z_aload_n 0 dX8_raise_0 rfl rfl ?_
    refine z_iload_n 1 dX8_raise_1 rfl rfl ?_
    refine z_iload_n 2 dX8_raise_2 rfl rfl ?_
    refine z_aload_n 0 dX8_raise_3 rfl rfl ?_
    refine z_iload_n 1 dX8_raise_4 rfl rfl ?_
    refine z_iload_n 2 dX8_raise_5 rfl rfl ?_
    obtain ⟨v1, ev1, hf⟩ := ob hf
    refine z_cVi (ci := 8) (T := TX8) (N := 2) (As := [.int l1, .int l2]) (rest := [.int l2, .int l1, .ref l0]) (zm_X8_get ev1).2 (zm_X8_get ev1).1 (by decide) rfl (Or.inl rfl) mw_55_6 mw_10_11 mw_10_12 mw_3_13 mw_10_13 yk_X8_get (by decide) (by decide) rfl (Nat.le_of_ble_eq_true rfl) rfl dX8_raise_6 ?_
    refine z_iload_n 3 dX8_raise_9 rfl rfl ?_
    refine z_iadd dX8_raise_10 ?_
    obtain ⟨v2, ev2, hf⟩ := ob hf
    refine z_cVv (ci := 8) (T := TX8) (N := 2) (As := [.int l1, .int l2, .int (v1 + l3)]) (rest := []) (zm_X8_put ev2).2 (zm_X8_put ev2).1 (by decide) rfl (Or.inl rfl) mw_55_7 mw_12_23 mw_13_0 mw_3_13 mw_13_1 yk_X8_put (by decide) (by decide) rfl (Nat.le_of_ble_eq_true rfl) rfl dX8_raise_11 ?_
    cases hf
    exact z_return hE rfl dX8_raise_14
  · cases hf
set_option maxRecDepth 20000 in
theorem zb_X1_clearSide_56 {N : Nat} {sh : Sh} {r : Dt} {E : EV} (hE : TG E none (sh, r))   {d : Dt} (hf : f_X1_clearSide_56 N sh  d = some r) : Z E yX1_clearSide cX1_clearSide 3 none 3 (sh, d) 56 [] [] := by
  unfold f_X1_clearSide_56 at hf
  cases hf
  exact z_return hE rfl dX1_clearSide_56
set_option maxRecDepth 20000 in
theorem zb_X1_clearSide_33 {N : Nat} {sh : Sh} {r : Dt} {E : EV} (hE : TG E none (sh, r))  {l0 : Nat} {l1 : Int32} {l2 : Int32} {d : Dt} (hf : f_X1_clearSide_33 N sh l0 l1 l2 d = some r) : Z E yX1_clearSide cX1_clearSide 3 none 3 (sh, d) 33 [(0, .ref l0), (1, .int l1), (2, .int l2)] [] := by
  unfold f_X1_clearSide_33 at hf
  refine z_aload_n 0 dX1_clearSide_33 rfl rfl ?_
  refine z_gP (ci := 1) (k := 1) (C := RX1) (T := TX1) (N := 8) rfl inlX1 (by decide) mw_3_14 (fun _ _ _ _ h9 => h9) hf (by decide) rfl dX1_clearSide_34  (fun v7 hf => ?_)
  refine z_iload_n 1 dX1_clearSide_37 rfl rfl ?_
  refine z_iconst 2 2 dX1_clearSide_38 (by decide) ?_
  obtain ⟨v8, ev8, hf⟩ := ob hf
  refine z_cVi (ci := 8) (T := TX8) (N := 2) (As := [.int l1, .int (2 : Int32)]) (rest := []) (zm_X8_get ev8).2 (zm_X8_get ev8).1 (by decide) rfl (Or.inl rfl) mw_10_10 mw_10_11 mw_10_12 mw_3_13 mw_10_13 yk_X8_get (by decide) (by decide) rfl (Nat.le_of_ble_eq_true rfl) rfl dX1_clearSide_39 ?_
  refine z_iload_n 2 dX1_clearSide_42 rfl rfl ?_
  refine z_icmp_lt 56 hf dX1_clearSide_43 (by decide) (fun hf => ?_) (fun hf => ?_)
  · refine z_lv [] [] rfl ?_
    exact zb_X1_clearSide_56 hE hf
  · refine z_aload_n 0 dX1_clearSide_46 rfl rfl ?_
    refine z_gP (ci := 1) (k := 1) (C := RX1) (T := TX1) (N := 8) rfl inlX1 (by decide) mw_3_14 (fun _ _ _ _ h9 => h9) hf (by decide) rfl dX1_clearSide_47  (fun v9 hf => ?_)
    refine z_iload_n 1 dX1_clearSide_50 rfl rfl ?_
    refine z_iconst 0 0 dX1_clearSide_51 (by decide) ?_
    refine z_iconst 0 0 dX1_clearSide_52 (by decide) ?_
    obtain ⟨v10, ev10, hf⟩ := ob hf
    refine z_cVv (ci := 8) (T := TX8) (N := 2) (As := [.int l1, .int (0 : Int32), .int (0 : Int32)]) (rest := []) (zm_X8_put ev10).2 (zm_X8_put ev10).1 (by decide) rfl (Or.inl rfl) mw_20_3 mw_12_23 mw_13_0 mw_3_13 mw_13_1 yk_X8_put (by decide) (by decide) rfl (Nat.le_of_ble_eq_true rfl) rfl dX1_clearSide_53 ?_
    refine z_lv [] [] rfl ?_
    exact zb_X1_clearSide_56 hE hf
set_option maxRecDepth 20000 in
theorem zm_X1_clearSide {N : Nat} {sh : Sh} {d : Dt} {l0 : Nat} {l1 : Int32} {r : Dt} (hf : f_X1_clearSide N sh l0 l1 d = some r) : isO sh l0 1 ∧ ∀ (l : Launch) (G : GG), Mt l G yX1_clearSide cX1_clearSide 3 none 3 [.ref l0, .int l1] (sh, d) none (sh, r) := by
  have hf0 := hf
  unfold f_X1_clearSide at hf
  split at hf
  · rename_i hO
    refine ⟨hO, fun l G => mt_of (Or.inl (by decide)) (Nat.le_of_ble_eq_true rfl) Le.rf (fun E hE => ?_)⟩
    show Z E yX1_clearSide cX1_clearSide 3 none 3 (sh, d) 0 [(0, .ref l0), (1, .int l1)] []
    refine z_aload_n 0 dX1_clearSide_0 rfl rfl ?_
    refine z_gP (ci := 1) (k := 1) (C := RX1) (T := TX1) (N := 8) rfl inlX1 (by decide) mw_3_14 (fun _ _ _ _ h9 => h9) hf (by decide) rfl dX1_clearSide_1  (fun v1 hf => ?_)
    refine z_iload_n 1 dX1_clearSide_4 rfl rfl ?_
    refine z_iconst 3 3 dX1_clearSide_5 (by decide) ?_
    obtain ⟨v2, ev2, hf⟩ := ob hf
    refine z_cVi (ci := 8) (T := TX8) (N := 2) (As := [.int l1, .int (3 : Int32)]) (rest := []) (zm_X8_get ev2).2 (zm_X8_get ev2).1 (by decide) rfl (Or.inl rfl) mw_10_10 mw_10_11 mw_10_12 mw_3_13 mw_10_13 yk_X8_get (by decide) (by decide) rfl (Nat.le_of_ble_eq_true rfl) rfl dX1_clearSide_6 ?_
    refine z_istore_n [(2, .int v2), (0, .ref l0), (1, .int l1)] dX1_clearSide_9 rfl (by decide) rfl ?_
    refine z_aload_n 1 dX1_clearSide_10 rfl rfl ?_
    refine z_gP (ci := 1) (k := 1) (C := RX1) (T := TX1) (N := 8) rfl inlX1 (by decide) mw_3_14 (fun _ _ _ _ h9 => h9) hf (by decide) rfl dX1_clearSide_11  (fun v3 hf => ?_)
    refine z_iload_n 2 dX1_clearSide_14 rfl rfl ?_
    refine z_iconst 2 2 dX1_clearSide_15 (by decide) ?_
    obtain ⟨v4, ev4, hf⟩ := ob hf
    refine z_cVi (ci := 8) (T := TX8) (N := 2) (As := [.int l1, .int (2 : Int32)]) (rest := []) (zm_X8_get ev4).2 (zm_X8_get ev4).1 (by decide) rfl (Or.inl rfl) mw_10_10 mw_10_11 mw_10_12 mw_3_13 mw_10_13 yk_X8_get (by decide) (by decide) rfl (Nat.le_of_ble_eq_true rfl) rfl dX1_clearSide_16 ?_
    refine z_iload_n 0 dX1_clearSide_19 rfl rfl ?_
    refine z_icmp_ge 33 hf dX1_clearSide_20 (by decide) (fun hf => ?_) (fun hf => ?_)
    · refine z_lv [(0, .ref l0), (1, .int l1), (2, .int v2)] [1, 2, 0] rfl ?_
      exact zb_X1_clearSide_33 hE hf
    · refine z_aload_n 1 dX1_clearSide_23 rfl rfl ?_
      refine z_gP (ci := 1) (k := 1) (C := RX1) (T := TX1) (N := 8) rfl inlX1 (by decide) mw_3_14 (fun _ _ _ _ h9 => h9) hf (by decide) rfl dX1_clearSide_24  (fun v5 hf => ?_)
      refine z_iload_n 2 dX1_clearSide_27 rfl rfl ?_
      refine z_iconst 2 2 dX1_clearSide_28 (by decide) ?_
      refine z_iconst 1 1 dX1_clearSide_29 (by decide) ?_
      obtain ⟨v6, ev6, hf⟩ := ob hf
      refine z_cVv (ci := 8) (T := TX8) (N := 2) (As := [.int l1, .int (2 : Int32), .int (1 : Int32)]) (rest := []) (zm_X8_raise ev6).2 (zm_X8_raise ev6).1 (by decide) rfl (Or.inl rfl) mw_55_2 mw_55_3 mw_55_4 mw_3_13 mw_55_5 yk_X8_raise (by decide) (by decide) rfl (Nat.le_of_ble_eq_true rfl) rfl dX1_clearSide_30 ?_
      refine z_lv [(0, .ref l0), (1, .int l1), (2, .int v2)] [1, 2, 0] rfl ?_
      exact zb_X1_clearSide_33 hE hf
  · cases hf
set_option maxRecDepth 20000 in
theorem zb_X11_driveNext_243 {N : Nat} {sh : Sh} {r : Dt} {E : EV} (hE : TG E none (sh, r))  {t0 : Nat} {t1 : Int32} {t2 : Int32} {t3 : Int32} {d : Dt} (hf : f_X11_driveNext_243 N sh t0 t1 t2 t3 d = some r) : Z E yX11_driveNext cX11_driveNext 8 none 4 (sh, d) 243 [] [.int t3, .int t2, .int t1, .ref t0] := by
  unfold f_X11_driveNext_243 at hf
  obtain ⟨v42, ev42, hf⟩ := ob hf
  refine z_cVv (ci := 8) (T := TX8) (N := 2) (As := [.int t1, .int t2, .int t3]) (rest := []) (zm_X8_raise ev42).2 (zm_X8_raise ev42).1 (by decide) rfl (Or.inl rfl) mw_55_8 mw_55_3 mw_55_4 mw_3_13 mw_55_5 yk_X8_raise (by decide) (by decide) rfl (Nat.le_of_ble_eq_true rfl) rfl dX11_driveNext_243 ?_
  cases hf
  exact z_return hE rfl dX11_driveNext_246
set_option maxRecDepth 20000 in
theorem zb_X11_driveNext_221 {N : Nat} {sh : Sh} {r : Dt} {E : EV} (hE : TG E none (sh, r))  {l0 : Nat} {l1 : Int32} {t0 : Int32} {d : Dt} (hf : f_X11_driveNext_221 N sh l0 l1 t0 d = some r) : Z E yX11_driveNext cX11_driveNext 8 none 4 (sh, d) 221 [(0, .ref l0), (1, .int l1)] [.int t0] := by
  unfold f_X11_driveNext_221 at hf
  refine z_istore [(7, .int t0), (0, .ref l0), (1, .int l1)] dX11_driveNext_221 (by decide) rfl ?_
  refine z_aload_n 1 dX11_driveNext_223 rfl rfl ?_
  refine z_gP (ci := 11) (k := 1) (C := RX11) (T := TX11) (N := 14) rfl inlX11 (by decide) mw_1_19 (fun _ _ _ _ h9 => h9) hf (by decide) rfl dX11_driveNext_224  (fun v40 hf => ?_)
  refine z_gP (ci := 1) (k := 3) (C := RX1) (T := TX1) (N := 8) rfl inlX1 (by decide) mw_29_16 (fun _ _ _ _ h9 => h9) hf (by decide) rfl dX11_driveNext_227  (fun v41 hf => ?_)
  refine z_iload_n 2 dX11_driveNext_230 rfl rfl ?_
  refine z_bipush 8 8 dX11_driveNext_231 (by decide) ?_
  refine z_iload 0 dX11_driveNext_233 rfl ?_
  refine z_if_eq 242 hf dX11_driveNext_235 (by decide) (fun hf => ?_) (fun hf => ?_)
  · refine z_iconst 0 0 dX11_driveNext_242 (by decide) ?_
    refine z_lv [] [] rfl ?_
    exact zb_X11_driveNext_243 hE hf
  · refine z_iconst 1 1 dX11_driveNext_238 (by decide) ?_
    refine z_goto 243 dX11_driveNext_239 (by decide) ?_
    refine z_lv [] [] rfl ?_
    exact zb_X11_driveNext_243 hE hf
set_option maxRecDepth 20000 in
theorem zb_X11_driveNext_186 {N : Nat} {sh : Sh} {r : Dt} {E : EV} (hE : TG E none (sh, r))  {l0 : Nat} {l1 : Int32} {t0 : Nat} {t1 : Int32} {t2 : Int32} {t3 : Int32} {d : Dt} (hf : f_X11_driveNext_186 N sh l0 l1 t0 t1 t2 t3 d = some r) : Z E yX11_driveNext cX11_driveNext 8 none 4 (sh, d) 186 [(0, .ref l0), (1, .int l1)] [.int t3, .int t2, .int t1, .ref t0] := by
  unfold f_X11_driveNext_186 at hf
  obtain ⟨v33, ev33, hf⟩ := ob hf
  refine z_cVv (ci := 8) (T := TX8) (N := 2) (As := [.int t1, .int t2, .int t3]) (rest := []) (zm_X8_raise ev33).2 (zm_X8_raise ev33).1 (by decide) rfl (Or.inl rfl) mw_55_8 mw_55_3 mw_55_4 mw_3_13 mw_55_5 yk_X8_raise (by decide) (by decide) rfl (Nat.le_of_ble_eq_true rfl) rfl dX11_driveNext_186 ?_
  refine z_aload_n 0 dX11_driveNext_189 rfl rfl ?_
  refine z_gP (ci := 11) (k := 1) (C := RX11) (T := TX11) (N := 14) rfl inlX11 (by decide) mw_1_19 (fun _ _ _ _ h9 => h9) hf (by decide) rfl dX11_driveNext_190  (fun v34 hf => ?_)
  refine z_gP (ci := 1) (k := 3) (C := RX1) (T := TX1) (N := 8) rfl inlX1 (by decide) mw_29_16 (fun _ _ _ _ h9 => h9) hf (by decide) rfl dX11_driveNext_193  (fun v35 hf => ?_)
  refine z_iload_n 1 dX11_driveNext_196 rfl rfl ?_
  refine z_iconst 3 3 dX11_driveNext_197 (by decide) ?_
  obtain ⟨v36, ev36, hf⟩ := ob hf
  refine z_cVi (ci := 8) (T := TX8) (N := 2) (As := [.int l1, .int (3 : Int32)]) (rest := []) (zm_X8_get ev36).2 (zm_X8_get ev36).1 (by decide) rfl (Or.inl rfl) mw_14_2 mw_10_11 mw_10_12 mw_3_13 mw_10_13 yk_X8_get (by decide) (by decide) rfl (Nat.le_of_ble_eq_true rfl) rfl dX11_driveNext_198 ?_
  refine z_aload_n 0 dX11_driveNext_201 rfl rfl ?_
  refine z_gP (ci := 11) (k := 1) (C := RX11) (T := TX11) (N := 14) rfl inlX11 (by decide) mw_1_19 (fun _ _ _ _ h9 => h9) hf (by decide) rfl dX11_driveNext_202  (fun v37 hf => ?_)
  refine z_gP (ci := 1) (k := 3) (C := RX1) (T := TX1) (N := 8) rfl inlX1 (by decide) mw_29_16 (fun _ _ _ _ h9 => h9) hf (by decide) rfl dX11_driveNext_205  (fun v38 hf => ?_)
  refine z_iload_n 1 dX11_driveNext_208 rfl rfl ?_
  refine z_iconst 5 5 dX11_driveNext_209 (by decide) ?_
  obtain ⟨v39, ev39, hf⟩ := ob hf
  refine z_cVi (ci := 8) (T := TX8) (N := 2) (As := [.int l1, .int (5 : Int32)]) (rest := [.int v36]) (zm_X8_get ev39).2 (zm_X8_get ev39).1 (by decide) rfl (Or.inl rfl) mw_14_2 mw_10_11 mw_10_12 mw_3_13 mw_10_13 yk_X8_get (by decide) (by decide) rfl (Nat.le_of_ble_eq_true rfl) rfl dX11_driveNext_210 ?_
  refine z_icmp_le 220 hf dX11_driveNext_213 (by decide) (fun hf => ?_) (fun hf => ?_)
  · refine z_iconst 0 0 dX11_driveNext_220 (by decide) ?_
    exact zb_X11_driveNext_221 hE hf
  · refine z_iconst 1 1 dX11_driveNext_216 (by decide) ?_
    refine z_goto 221 dX11_driveNext_217 (by decide) ?_
    exact zb_X11_driveNext_221 hE hf
set_option maxRecDepth 20000 in
theorem zb_X11_driveNext_138 {N : Nat} {sh : Sh} {r : Dt} {E : EV} (hE : TG E none (sh, r))  {l0 : Nat} {l1 : Int32} {l5 : Int32} {l6 : Int32} {d : Dt} (hf : f_X11_driveNext_138 N sh l0 l1 l5 l6 d = some r) : Z E yX11_driveNext cX11_driveNext 8 none 4 (sh, d) 138 [(0, .ref l0), (1, .int l1), (5, .int l5), (6, .int l6)] [] := by
  unfold f_X11_driveNext_138 at hf
  refine z_aload_n 0 dX11_driveNext_138 rfl rfl ?_
  refine z_gP (ci := 11) (k := 1) (C := RX11) (T := TX11) (N := 14) rfl inlX11 (by decide) mw_1_19 (fun _ _ _ _ h9 => h9) hf (by decide) rfl dX11_driveNext_139  (fun v25 hf => ?_)
  refine z_gP (ci := 1) (k := 3) (C := RX1) (T := TX1) (N := 8) rfl inlX1 (by decide) mw_29_16 (fun _ _ _ _ h9 => h9) hf (by decide) rfl dX11_driveNext_142  (fun v26 hf => ?_)
  refine z_iload_n 1 dX11_driveNext_145 rfl rfl ?_
  refine z_iconst 2 2 dX11_driveNext_146 (by decide) ?_
  refine z_iconst 1 1 dX11_driveNext_147 (by decide) ?_
  obtain ⟨v27, ev27, hf⟩ := ob hf
  refine z_cVv (ci := 8) (T := TX8) (N := 2) (As := [.int l1, .int (2 : Int32), .int (1 : Int32)]) (rest := []) (zm_X8_raise ev27).2 (zm_X8_raise ev27).1 (by decide) rfl (Or.inl rfl) mw_55_8 mw_55_3 mw_55_4 mw_3_13 mw_55_5 yk_X8_raise (by decide) (by decide) rfl (Nat.le_of_ble_eq_true rfl) rfl dX11_driveNext_148 ?_
  refine z_aload_n 0 dX11_driveNext_151 rfl rfl ?_
  refine z_gP (ci := 11) (k := 1) (C := RX11) (T := TX11) (N := 14) rfl inlX11 (by decide) mw_1_19 (fun _ _ _ _ h9 => h9) hf (by decide) rfl dX11_driveNext_152  (fun v28 hf => ?_)
  refine z_gP (ci := 1) (k := 3) (C := RX1) (T := TX1) (N := 8) rfl inlX1 (by decide) mw_29_16 (fun _ _ _ _ h9 => h9) hf (by decide) rfl dX11_driveNext_155  (fun v29 hf => ?_)
  refine z_iload_n 1 dX11_driveNext_158 rfl rfl ?_
  refine z_iconst 3 3 dX11_driveNext_159 (by decide) ?_
  refine z_iload 3 dX11_driveNext_160 rfl ?_
  obtain ⟨v30, ev30, hf⟩ := ob hf
  refine z_cVv (ci := 8) (T := TX8) (N := 2) (As := [.int l1, .int (3 : Int32), .int l6]) (rest := []) (zm_X8_raise ev30).2 (zm_X8_raise ev30).1 (by decide) rfl (Or.inl rfl) mw_55_8 mw_55_3 mw_55_4 mw_3_13 mw_55_5 yk_X8_raise (by decide) (by decide) rfl (Nat.le_of_ble_eq_true rfl) rfl dX11_driveNext_162 ?_
  refine z_aload_n 0 dX11_driveNext_165 rfl rfl ?_
  refine z_gP (ci := 11) (k := 1) (C := RX11) (T := TX11) (N := 14) rfl inlX11 (by decide) mw_1_19 (fun _ _ _ _ h9 => h9) hf (by decide) rfl dX11_driveNext_166  (fun v31 hf => ?_)
  refine z_gP (ci := 1) (k := 3) (C := RX1) (T := TX1) (N := 8) rfl inlX1 (by decide) mw_29_16 (fun _ _ _ _ h9 => h9) hf (by decide) rfl dX11_driveNext_169  (fun v32 hf => ?_)
  refine z_iload_n 1 dX11_driveNext_172 rfl rfl ?_
  refine z_bipush 7 7 dX11_driveNext_173 (by decide) ?_
  refine z_iload 2 dX11_driveNext_175 rfl ?_
  refine z_iconst 1 1 dX11_driveNext_177 (by decide) ?_
  refine z_icmp_le 185 hf dX11_driveNext_178 (by decide) (fun hf => ?_) (fun hf => ?_)
  · refine z_iconst 0 0 dX11_driveNext_185 (by decide) ?_
    refine z_lv [(0, .ref l0), (1, .int l1)] [0, 1] rfl ?_
    exact zb_X11_driveNext_186 hE hf
  · refine z_iconst 1 1 dX11_driveNext_181 (by decide) ?_
    refine z_goto 186 dX11_driveNext_182 (by decide) ?_
    refine z_lv [(0, .ref l0), (1, .int l1)] [0, 1] rfl ?_
    exact zb_X11_driveNext_186 hE hf
set_option maxRecDepth 20000 in
theorem zb_X11_driveNext_75 {N : Nat} {sh : Sh} {r : Dt} {E : EV} (hE : TG E none (sh, r))  {l0 : Nat} {l1 : Int32} {l3 : Int32} {l4 : Int32} {t0 : Int32} {d : Dt} (hf : f_X11_driveNext_75 N sh l0 l1 l3 l4 t0 d = some r) : Z E yX11_driveNext cX11_driveNext 8 none 4 (sh, d) 75 [(0, .ref l0), (1, .int l1), (3, .int l3), (4, .int l4)] [.int t0] := by
  unfold f_X11_driveNext_75 at hf
  refine z_istore [(5, .int t0), (0, .ref l0), (1, .int l1), (3, .int l3), (4, .int l4)] dX11_driveNext_75 (by decide) rfl ?_
  refine z_iconst 1 1 dX11_driveNext_77 (by decide) ?_
  refine z_iload 0 dX11_driveNext_78 rfl ?_
  refine z_max mw_54_20 mw_8_21 mw_8_22 mw_8_23 (by decide) (Nat.le_of_ble_eq_true rfl) dX11_driveNext_80 ?_
  refine z_aload_n 1 dX11_driveNext_83 rfl rfl ?_
  refine z_gP (ci := 11) (k := 6) (C := RX11) (T := TX11) (N := 14) rfl inlX11 (by decide) mw_2_10 (fun _ _ _ _ h9 => h9) hf (by decide) rfl dX11_driveNext_84  (fun v15 hf => ?_)
  refine z_iload_n 2 dX11_driveNext_87 rfl rfl ?_
  refine z_aP hf dX11_driveNext_88  (fun v16 hf => ?_)
  refine z_aload_n 1 dX11_driveNext_89 rfl rfl ?_
  refine z_gP (ci := 11) (k := 1) (C := RX11) (T := TX11) (N := 14) rfl inlX11 (by decide) mw_1_19 (fun _ _ _ _ h9 => h9) hf (by decide) rfl dX11_driveNext_90  (fun v17 hf => ?_)
  refine z_gP (ci := 1) (k := 1) (C := RX1) (T := TX1) (N := 8) rfl inlX1 (by decide) mw_12_12 (fun _ _ _ _ h9 => h9) hf (by decide) rfl dX11_driveNext_93  (fun v18 hf => ?_)
  refine z_iload_n 3 dX11_driveNext_96 rfl rfl ?_
  refine z_bipush 6 6 dX11_driveNext_97 (by decide) ?_
  obtain ⟨v19, ev19, hf⟩ := ob hf
  refine z_cVi (ci := 8) (T := TX8) (N := 2) (As := [.int l3, .int (6 : Int32)]) (rest := [.ref v16, .int (o_max (1 : Int32) t0)]) (zm_X8_get ev19).2 (zm_X8_get ev19).1 (by decide) rfl (Or.inl rfl) mw_14_2 mw_10_11 mw_10_12 mw_3_13 mw_10_13 yk_X8_get (by decide) (by decide) rfl (Nat.le_of_ble_eq_true rfl) rfl dX11_driveNext_99 ?_
  obtain ⟨v20, ev20, hf⟩ := ob hf
  refine z_vtakes (rest := [.int (o_max (1 : Int32) t0)]) ev20 mw_34_5 (by decide) (Nat.le_of_ble_eq_true rfl) dX11_driveNext_102 ?_
  refine z_imul dX11_driveNext_105 ?_
  refine z_istore [(6, .int ((o_max (1 : Int32) t0) * v20.1)), (5, .int t0), (0, .ref l0), (1, .int l1), (3, .int l3), (4, .int l4)] dX11_driveNext_106 (by decide) rfl ?_
  refine z_iload 1 dX11_driveNext_108 rfl ?_
  refine z_if_ne 125 hf dX11_driveNext_110 (by decide) (fun hf => ?_) (fun hf => ?_)
  · refine z_iload 5 dX11_driveNext_125 rfl ?_
    refine z_if_eq 138 hf dX11_driveNext_127 (by decide) (fun hf => ?_) (fun hf => ?_)
    · refine z_lv [(0, .ref l0), (1, .int l1), (5, .int t0), (6, .int ((o_max (1 : Int32) t0) * v20.1))] [2, 3, 1, 0] rfl ?_
      exact zb_X11_driveNext_138 hE hf
    · refine z_aload_n 2 dX11_driveNext_130 rfl rfl ?_
      refine z_gP (ci := 11) (k := 1) (C := RX11) (T := TX11) (N := 14) rfl inlX11 (by decide) mw_1_19 (fun _ _ _ _ h9 => h9) hf (by decide) rfl dX11_driveNext_131  (fun v21 hf => ?_)
      refine z_iload_n 4 dX11_driveNext_134 rfl rfl ?_
      obtain ⟨v22, ev22, hf⟩ := ob hf
      refine z_cVv (ci := 1) (T := TX1) (N := 8) (As := [.int l3]) (rest := []) (zm_X1_clearSide ev22).2 (zm_X1_clearSide ev22).1 (by decide) rfl (Or.inl rfl) mw_54_22 mw_54_23 mw_55_0 mw_1_18 mw_55_1 yk_X1_clearSide (by decide) (by decide) rfl (Nat.le_of_ble_eq_true rfl) rfl dX11_driveNext_135 ?_
      refine z_lv [(0, .ref l0), (1, .int l1), (5, .int t0), (6, .int ((o_max (1 : Int32) t0) * v20.1))] [2, 3, 1, 0] rfl ?_
      exact zb_X11_driveNext_138 hE hf
  · refine z_aload_n 2 dX11_driveNext_113 rfl rfl ?_
    refine z_gP (ci := 11) (k := 0) (C := RX11) (T := TX11) (N := 14) rfl inlX11 (by decide) mw_1_15 (fun _ _ _ _ h9 => h9) hf (by decide) rfl dX11_driveNext_114  (fun v23 hf => ?_)
    refine z_bipush (-9) (-9) dX11_driveNext_117 (by decide) ?_
    obtain ⟨v24, ev24, hf⟩ := ob hf
    refine z_cVv (ci := 2) (T := TX2) (N := 4) (As := [.int (-9 : Int32)]) (rest := []) (zm_X2_find ev24).2 (zm_X2_find ev24).1 (by decide) rfl (Or.inl rfl) mw_8_3 mw_8_4 mw_8_5 mw_1_14 mw_8_6 yk_X2_find (by decide) (by decide) rfl (Nat.le_of_ble_eq_true rfl) rfl dX11_driveNext_119 ?_
    refine z_goto 138 dX11_driveNext_122 (by decide) ?_
    refine z_lv [(0, .ref l0), (1, .int l1), (5, .int t0), (6, .int ((o_max (1 : Int32) t0) * v20.1))] [2, 3, 1, 0] rfl ?_
    exact zb_X11_driveNext_138 hE hf
set_option maxRecDepth 20000 in
theorem zb_X11_driveNext_43 {N : Nat} {sh : Sh} {r : Dt} {E : EV} (hE : TG E none (sh, r))  {l0 : Nat} {l1 : Int32} {l3 : Int32} {t0 : Int32} {d : Dt} (hf : f_X11_driveNext_43 N sh l0 l1 l3 t0 d = some r) : Z E yX11_driveNext cX11_driveNext 8 none 4 (sh, d) 43 [(0, .ref l0), (1, .int l1), (3, .int l3)] [.int t0] := by
  unfold f_X11_driveNext_43 at hf
  refine z_istore [(4, .int t0), (0, .ref l0), (1, .int l1), (3, .int l3)] dX11_driveNext_43 (by decide) rfl ?_
  refine z_iload 0 dX11_driveNext_45 rfl ?_
  refine z_if_eq 74 hf dX11_driveNext_47 (by decide) (fun hf => ?_) (fun hf => ?_)
  · refine z_iconst 1 1 dX11_driveNext_74 (by decide) ?_
    refine z_lv [(0, .ref l0), (1, .int l1), (3, .int l3), (4, .int t0)] [1, 2, 3, 0] rfl ?_
    exact zb_X11_driveNext_75 hE hf
  · refine z_aload_n 1 dX11_driveNext_50 rfl rfl ?_
    refine z_gP (ci := 11) (k := 6) (C := RX11) (T := TX11) (N := 14) rfl inlX11 (by decide) mw_2_10 (fun _ _ _ _ h9 => h9) hf (by decide) rfl dX11_driveNext_51  (fun v9 hf => ?_)
    refine z_iload_n 2 dX11_driveNext_54 rfl rfl ?_
    refine z_aP hf dX11_driveNext_55  (fun v10 hf => ?_)
    refine z_aload_n 1 dX11_driveNext_56 rfl rfl ?_
    refine z_gP (ci := 11) (k := 1) (C := RX11) (T := TX11) (N := 14) rfl inlX11 (by decide) mw_1_19 (fun _ _ _ _ h9 => h9) hf (by decide) rfl dX11_driveNext_57  (fun v11 hf => ?_)
    refine z_gP (ci := 1) (k := 1) (C := RX1) (T := TX1) (N := 8) rfl inlX1 (by decide) mw_12_12 (fun _ _ _ _ h9 => h9) hf (by decide) rfl dX11_driveNext_60  (fun v12 hf => ?_)
    refine z_iload_n 3 dX11_driveNext_63 rfl rfl ?_
    refine z_iconst 0 0 dX11_driveNext_64 (by decide) ?_
    obtain ⟨v13, ev13, hf⟩ := ob hf
    refine z_cVi (ci := 8) (T := TX8) (N := 2) (As := [.int l3, .int (0 : Int32)]) (rest := [.ref v10]) (zm_X8_get ev13).2 (zm_X8_get ev13).1 (by decide) rfl (Or.inl rfl) mw_14_2 mw_10_11 mw_10_12 mw_3_13 mw_10_13 yk_X8_get (by decide) (by decide) rfl (Nat.le_of_ble_eq_true rfl) rfl dX11_driveNext_65 ?_
    obtain ⟨v14, ev14, hf⟩ := ob hf
    refine z_vpasses (rest := []) ev14 mw_35_15 (by decide) (Nat.le_of_ble_eq_true rfl) dX11_driveNext_68 ?_
    refine z_goto 75 dX11_driveNext_71 (by decide) ?_
    refine z_lv [(0, .ref l0), (1, .int l1), (3, .int l3), (4, .int t0)] [1, 2, 3, 0] rfl ?_
    exact zb_X11_driveNext_75 hE hf
set_option maxRecDepth 20000 in
theorem zm_X11_driveNext {N : Nat} {sh : Sh} {d : Dt} {l0 : Nat} {l1 : Int32} {r : Dt} (hf : f_X11_driveNext N sh l0 l1 d = some r) : isO sh l0 11 ∧ ∀ (l : Launch) (G : GG), Mt l G yX11_driveNext cX11_driveNext 8 none 4 [.ref l0, .int l1] (sh, d) none (sh, r) := by
  have hf0 := hf
  unfold f_X11_driveNext at hf
  split at hf
  · rename_i hO
    refine ⟨hO, fun l G => mt_of (Or.inl (by decide)) (Nat.le_of_ble_eq_true rfl) Le.rf (fun E hE => ?_)⟩
    show Z E yX11_driveNext cX11_driveNext 8 none 4 (sh, d) 0 [(0, .ref l0), (1, .int l1)] []
    refine z_aload_n 0 dX11_driveNext_0 rfl rfl ?_
    refine z_gP (ci := 11) (k := 1) (C := RX11) (T := TX11) (N := 14) rfl inlX11 (by decide) mw_1_19 (fun _ _ _ _ h9 => h9) hf (by decide) rfl dX11_driveNext_1  (fun v1 hf => ?_)
    refine z_iload_n 1 dX11_driveNext_4 rfl rfl ?_
    obtain ⟨v2, ev2, hf⟩ := ob hf
    refine z_cVi (ci := 1) (T := TX1) (N := 8) (As := [.int l1]) (rest := []) (zm_X1_nextDrive ev2).2 (zm_X1_nextDrive ev2).1 (by decide) rfl (Or.inl rfl) mw_54_21 mw_54_13 mw_54_14 mw_1_18 mw_54_15 yk_X1_nextDrive (by decide) (by decide) rfl (Nat.le_of_ble_eq_true rfl) rfl dX11_driveNext_5 ?_
    refine z_istore_n [(2, .int v2), (0, .ref l0), (1, .int l1)] dX11_driveNext_8 rfl (by decide) rfl ?_
    refine z_aload_n 1 dX11_driveNext_9 rfl rfl ?_
    refine z_gP (ci := 11) (k := 1) (C := RX11) (T := TX11) (N := 14) rfl inlX11 (by decide) mw_1_19 (fun _ _ _ _ h9 => h9) hf (by decide) rfl dX11_driveNext_10  (fun v3 hf => ?_)
    refine z_gP (ci := 1) (k := 4) (C := RX1) (T := TX1) (N := 8) rfl inlX1 (by decide) mw_43_7 (fun _ _ _ _ h9 => h9) hf (by decide) rfl dX11_driveNext_13  (fun v4 hf => ?_)
    refine z_iload_n 0 dX11_driveNext_16 rfl rfl ?_
    refine z_iconst 0 0 dX11_driveNext_17 (by decide) ?_
    obtain ⟨v5, ev5, hf⟩ := ob hf
    refine z_cVi (ci := 8) (T := TX8) (N := 2) (As := [.int v2, .int (0 : Int32)]) (rest := []) (zm_X8_get ev5).2 (zm_X8_get ev5).1 (by decide) rfl (Or.inl rfl) mw_14_2 mw_10_11 mw_10_12 mw_3_13 mw_10_13 yk_X8_get (by decide) (by decide) rfl (Nat.le_of_ble_eq_true rfl) rfl dX11_driveNext_18 ?_
    refine z_istore_n [(3, .int v5), (2, .int v2), (0, .ref l0), (1, .int l1)] dX11_driveNext_21 rfl (by decide) rfl ?_
    refine z_aload_n 2 dX11_driveNext_22 rfl rfl ?_
    refine z_gP (ci := 11) (k := 1) (C := RX11) (T := TX11) (N := 14) rfl inlX11 (by decide) mw_1_19 (fun _ _ _ _ h9 => h9) hf (by decide) rfl dX11_driveNext_23  (fun v6 hf => ?_)
    refine z_gP (ci := 1) (k := 4) (C := RX1) (T := TX1) (N := 8) rfl inlX1 (by decide) mw_43_7 (fun _ _ _ _ h9 => h9) hf (by decide) rfl dX11_driveNext_26  (fun v7 hf => ?_)
    refine z_iload_n 1 dX11_driveNext_29 rfl rfl ?_
    refine z_iconst 3 3 dX11_driveNext_30 (by decide) ?_
    obtain ⟨v8, ev8, hf⟩ := ob hf
    refine z_cVi (ci := 8) (T := TX8) (N := 2) (As := [.int v2, .int (3 : Int32)]) (rest := []) (zm_X8_get ev8).2 (zm_X8_get ev8).1 (by decide) rfl (Or.inl rfl) mw_14_2 mw_10_11 mw_10_12 mw_3_13 mw_10_13 yk_X8_get (by decide) (by decide) rfl (Nat.le_of_ble_eq_true rfl) rfl dX11_driveNext_31 ?_
    refine z_iconst 1 1 dX11_driveNext_34 (by decide) ?_
    refine z_icmp_ne 42 hf dX11_driveNext_35 (by decide) (fun hf => ?_) (fun hf => ?_)
    · refine z_iconst 0 0 dX11_driveNext_42 (by decide) ?_
      refine z_lv [(0, .ref l0), (1, .int l1), (3, .int v5)] [2, 3, 0] rfl ?_
      exact zb_X11_driveNext_43 hE hf
    · refine z_iconst 1 1 dX11_driveNext_38 (by decide) ?_
      refine z_goto 43 dX11_driveNext_39 (by decide) ?_
      refine z_lv [(0, .ref l0), (1, .int l1), (3, .int v5)] [2, 3, 0] rfl ?_
      exact zb_X11_driveNext_43 hE hf
  · cases hf
set_option maxRecDepth 20000 in
theorem le_X8_add_39 {N : Nat} {r : Int32 × AS}  {l0 : Nat} {s : AS} (hf : f_X8_add_39 N l0 s = some r) : Le s r.2 := by
  unfold f_X8_add_39 at hf
  obtain ⟨v9, -, hf⟩ := ob hf
  obtain ⟨d10, -, hf⟩ := ob hf
  obtain ⟨v11, -, hf⟩ := ob hf
  cases hf
  exact Le.rf
set_option maxRecDepth 20000 in
theorem zb_X8_add_39 {N : Nat} {r : Int32 × AS} {E : EV} (hE : TG E (some (.int r.1)) r.2)  {l0 : Nat} {s : AS} (hf : f_X8_add_39 N l0 s = some r) : Z E yX8_add cX8_add 2 (some .int) 3 s 39 [(0, .ref l0)] [] := by
  unfold f_X8_add_39 at hf
  refine z_aload_n 0 dX8_add_39 rfl rfl ?_
  refine z_dup dX8_add_40 rfl ?_
  refine z_gI (ci := 8) (k := 1) (C := RX8) (T := TX8) (N := 2) rfl inlX8 (by decide) mw_4_2 (fun _ _ _ _ h9 => h9) hf (by decide) rfl dX8_add_41  (fun v9 hf => ?_)
  refine z_iconst 1 1 dX8_add_44 (by decide) ?_
  refine z_iadd dX8_add_45 ?_
  refine z_pI (ci := 8) (k := 1) (C := RX8) (T := TX8) (N := 2) rfl inlX8 (by decide) mw_4_2 (fun _ _ _ _ h9 => h9) tyX8 tyX8_ok nmX8 rfl hf (Or.inl (by decide)) rfl rfl rfl dX8_add_46  (fun d10 hf => ?_)
  refine z_aload_n 0 dX8_add_49 rfl rfl ?_
  refine z_gI (ci := 8) (k := 1) (C := RX8) (T := TX8) (N := 2) rfl inlX8 (by decide) mw_4_2 (fun _ _ _ _ h9 => h9) hf (by decide) rfl dX8_add_50  (fun v11 hf => ?_)
  refine z_iconst 1 1 dX8_add_53 (by decide) ?_
  refine z_isub dX8_add_54 ?_
  cases hf
  exact z_ireturn hE rfl dX8_add_55
set_option maxRecDepth 20000 in
theorem lg_X8_add_12 {N : Nat} {r : Int32 × AS} {k12 : Nat → Int32 → AS → Option (Int32 × AS)}  (hk12 : ∀ (l0 : Nat) (l1 : Int32) (s : AS), k12 l0 l1 s = some r → Le s r.2) {l0 : Nat} {l1 : Int32} {s : AS} (hf : g_X8_add_12 N k12 l0 l1 s = some r) : Le s r.2 := by
  unfold g_X8_add_12 at hf
  obtain ⟨v3, -, hf⟩ := ob hf
  obtain ⟨v4, -, hf⟩ := ob hf
  split at hf
  · exact Le.via (le_X8_add_39 hf) rfl
  · obtain ⟨v5, -, hf⟩ := ob hf
    obtain ⟨v6, -, hf⟩ := ob hf
    obtain ⟨v7, -, hf⟩ := ob hf
    obtain ⟨d8, -, hf⟩ := ob hf
    exact Le.via (hk12 _ _ _ hf) rfl
set_option maxRecDepth 20000 in
theorem le_X8_add_12 {N : Nat} {r : Int32 × AS}  : ∀ (n : Nat) (l0 : Nat) (l1 : Int32) (s : AS), f_X8_add_12 N n l0 l1 s = some r → Le s r.2 := by
  intro n
  induction n with
  | zero => intro l0 l1 s hf; cases hf
  | succ n ih => intro l0 l1 s hf; exact lg_X8_add_12 ih hf
set_option maxRecDepth 20000 in
theorem zg_X8_add_12 {N : Nat} {r : Int32 × AS} {k12 : Nat → Int32 → AS → Option (Int32 × AS)} {E : EV} (hE : TG E (some (.int r.1)) r.2)  (hk12 : ∀ (l0 : Nat) (l1 : Int32) (s : AS), k12 l0 l1 s = some r → Z E yX8_add cX8_add 2 (some .int) 3 s 12 [(0, .ref l0), (1, .int l1)] []) {l0 : Nat} {l1 : Int32} {s : AS} (hf : g_X8_add_12 N k12 l0 l1 s = some r) : Z E yX8_add cX8_add 2 (some .int) 3 s 12 [(0, .ref l0), (1, .int l1)] [] := by
  unfold g_X8_add_12 at hf
  refine z_iload_n 1 dX8_add_12 rfl rfl ?_
  refine z_aload_n 0 dX8_add_13 rfl rfl ?_
  refine z_gP (ci := 8) (k := 0) (C := RX8) (T := TX8) (N := 2) rfl inlX8 (by decide) mw_4_4 (fun _ _ _ _ h9 => h9) hf (by decide) rfl dX8_add_14  (fun v3 hf => ?_)
  refine z_aLen hf dX8_add_17  (fun v4 hf => ?_)
  refine z_icmp_ge 39 hf dX8_add_18 (by decide) (fun hf => ?_) (fun hf => ?_)
  · refine z_lv [(0, .ref l0)] [0] rfl ?_
    exact zb_X8_add_39 hE hf
  · refine z_aload_n 0 dX8_add_21 rfl rfl ?_
    refine z_gP (ci := 8) (k := 0) (C := RX8) (T := TX8) (N := 2) rfl inlX8 (by decide) mw_4_4 (fun _ _ _ _ h9 => h9) hf (by decide) rfl dX8_add_22  (fun v5 hf => ?_)
    refine z_iload_n 1 dX8_add_25 rfl rfl ?_
    refine z_aR hf dX8_add_26  (fun v6 hf => ?_)
    refine z_aload_n 0 dX8_add_27 rfl rfl ?_
    refine z_gI (ci := 8) (k := 1) (C := RX8) (T := TX8) (N := 2) rfl inlX8 (by decide) mw_4_2 (fun _ _ _ _ h9 => h9) hf (by decide) rfl dX8_add_28  (fun v7 hf => ?_)
    refine z_iconst 0 0 dX8_add_31 (by decide) ?_
    refine z_sI hf dX8_add_32  (fun d8 hf => ?_)
    refine z_iinc [(1, .int (l1 + 1)), (0, .ref l0)] 1 (l1 + 1) dX8_add_33 rfl rfl (by decide) rfl ?_
    refine z_goto 12 dX8_add_36 (by decide) ?_
    refine z_lv [(0, .ref l0), (1, .int (l1 + 1))] [1, 0] rfl ?_
    exact hk12 _ _ _ hf
set_option maxRecDepth 20000 in
theorem zb_X8_add_12 {N : Nat} {r : Int32 × AS} {E : EV} (hE : TG E (some (.int r.1)) r.2)  : ∀ (n : Nat) (l0 : Nat) (l1 : Int32) (s : AS), f_X8_add_12 N n l0 l1 s = some r → Z E yX8_add cX8_add 2 (some .int) 3 s 12 [(0, .ref l0), (1, .int l1)] [] := by
  intro n
  induction n with
  | zero => intro l0 l1 s hf; cases hf
  | succ n ih => intro l0 l1 s hf; exact zg_X8_add_12 hE ih hf
set_option maxRecDepth 20000 in
theorem le_X8_add_10 {N : Nat} {r : Int32 × AS}  {l0 : Nat} {s : AS} (hf : f_X8_add_10 N l0 s = some r) : Le s r.2 := by
  unfold f_X8_add_10 at hf
  exact Le.via (le_X8_add_12 N _ _ _ hf) rfl
set_option maxRecDepth 20000 in
theorem zb_X8_add_10 {N : Nat} {r : Int32 × AS} {E : EV} (hE : TG E (some (.int r.1)) r.2)  {l0 : Nat} {s : AS} (hf : f_X8_add_10 N l0 s = some r) : Z E yX8_add cX8_add 2 (some .int) 3 s 10 [(0, .ref l0)] [] := by
  unfold f_X8_add_10 at hf
  refine z_iconst 0 0 dX8_add_10 (by decide) ?_
  refine z_istore_n [(1, .int (0 : Int32)), (0, .ref l0)] dX8_add_11 rfl (by decide) rfl ?_
  refine z_lv [(0, .ref l0), (1, .int (0 : Int32))] [1, 0] rfl ?_
  exact zb_X8_add_12 hE N _ _ _ hf
set_option maxRecDepth 20000 in
theorem lm_X8_add {N : Nat} {s : AS} {l0 : Nat} {r : Int32 × AS} (hf : f_X8_add N l0 s = some r) : Le s r.2 := by
  unfold f_X8_add at hf
  split at hf
  · skip
    obtain ⟨v1, -, hf⟩ := ob hf
    obtain ⟨v2, ev2, hf⟩ := ob hf
    refine Le.of (t := (s.1, s.2)) rfl ((lm_X8_widen ev2).tr ?_)
    exact Le.via (le_X8_add_10 hf) rfl
  · cases hf
set_option maxRecDepth 20000 in
theorem zm_X8_add {N : Nat} {s : AS} {l0 : Nat} {r : Int32 × AS} (hf : f_X8_add N l0 s = some r) : isO s.1 l0 8 ∧ ∀ (l : Launch) (G : GG), Mt l G yX8_add cX8_add 2 (some .int) 3 [.ref l0] s (some (.int r.1)) r.2 := by
  have hf0 := hf
  unfold f_X8_add at hf
  split at hf
  · rename_i hO
    refine ⟨hO, fun l G => mt_of (Or.inl (by decide)) (Nat.le_of_ble_eq_true rfl) (lm_X8_add hf0) (fun E hE => ?_)⟩
    show Z E yX8_add cX8_add 2 (some .int) 3 s 0 [(0, .ref l0)] []
    refine z_aload_n 0 dX8_add_0 rfl rfl ?_
    refine z_aload_n 0 dX8_add_1 rfl rfl ?_
    refine z_gI (ci := 8) (k := 1) (C := RX8) (T := TX8) (N := 2) rfl inlX8 (by decide) mw_4_2 (fun _ _ _ _ h9 => h9) hf (by decide) rfl dX8_add_2  (fun v1 hf => ?_)
    refine z_iconst 1 1 dX8_add_5 (by decide) ?_
    refine z_iadd dX8_add_6 ?_
    obtain ⟨v2, ev2, hf⟩ := ob hf
    refine z_cVv (ci := 8) (T := TX8) (N := 2) (As := [.int (v1 + (1 : Int32))]) (rest := []) (zm_X8_widen ev2).2 (zm_X8_widen ev2).1 (by decide) rfl (Or.inr (tg_le hE (le_X8_add_10 hf))) mw_9_5 mw_9_6 mw_9_7 mw_3_13 mw_9_8 yk_X8_widen (by decide) (by decide) rfl (Nat.le_of_ble_eq_true rfl) rfl dX8_add_7 ?_
    exact zb_X8_add_10 hE hf
  · cases hf
set_option maxRecDepth 20000 in
theorem le_X11_enlist_10 {N : Nat} {r : Int32 × AS}  {l0 : Nat} {l1 : Nat} {l2 : Int32} {l3 : Int32} {t0 : Int32} {s : AS} (hf : f_X11_enlist_10 N l0 l1 l2 l3 t0 s = some r) : Le s r.2 := by
  unfold f_X11_enlist_10 at hf
  obtain ⟨v4, -, hf⟩ := ob hf
  obtain ⟨d5, -, hf⟩ := ob hf
  obtain ⟨v6, -, hf⟩ := ob hf
  obtain ⟨v7, -, hf⟩ := ob hf
  obtain ⟨v8, -, hf⟩ := ob hf
  obtain ⟨v9, -, hf⟩ := ob hf
  obtain ⟨v10, -, hf⟩ := ob hf
  obtain ⟨v11, -, hf⟩ := ob hf
  cases hf
  exact Le.rf
set_option maxRecDepth 20000 in
theorem zb_X11_enlist_10 {N : Nat} {r : Int32 × AS} {E : EV} (hE : TG E (some (.int r.1)) r.2)  {l0 : Nat} {l1 : Nat} {l2 : Int32} {l3 : Int32} {t0 : Int32} {s : AS} (hf : f_X11_enlist_10 N l0 l1 l2 l3 t0 s = some r) : Z E yX11_enlist cX11_enlist 5 (some .int) 4 s 10 [(0, .ref l0), (1, .ref l1), (2, .int l2), (3, .int l3)] [.int t0] := by
  unfold f_X11_enlist_10 at hf
  refine z_istore [(4, .int t0), (0, .ref l0), (1, .ref l1), (2, .int l2), (3, .int l3)] dX11_enlist_10 (by decide) rfl ?_
  refine z_aload_n 1 dX11_enlist_12 rfl rfl ?_
  refine z_gP (ci := 11) (k := 6) (C := RX11) (T := TX11) (N := 14) rfl inlX11 (by decide) mw_2_10 (fun _ _ _ _ h9 => h9) hf (by decide) rfl dX11_enlist_13  (fun v4 hf => ?_)
  refine z_iload 0 dX11_enlist_16 rfl ?_
  refine z_aload_n 2 dX11_enlist_18 rfl rfl ?_
  refine z_sP hf dX11_enlist_19  (fun d5 hf => ?_)
  refine z_aload_n 1 dX11_enlist_20 rfl rfl ?_
  refine z_gP (ci := 11) (k := 1) (C := RX11) (T := TX11) (N := 14) rfl inlX11 (by decide) mw_1_19 (fun _ _ _ _ h9 => h9) hf (by decide) rfl dX11_enlist_21  (fun v6 hf => ?_)
  refine z_gP (ci := 1) (k := 3) (C := RX1) (T := TX1) (N := 8) rfl inlX1 (by decide) mw_29_16 (fun _ _ _ _ h9 => h9) hf (by decide) rfl dX11_enlist_24  (fun v7 hf => ?_)
  refine z_iload 0 dX11_enlist_27 rfl ?_
  refine z_bipush 6 6 dX11_enlist_29 (by decide) ?_
  refine z_iload_n 3 dX11_enlist_31 rfl rfl ?_
  obtain ⟨v8, ev8, hf⟩ := ob hf
  refine z_cVv (ci := 8) (T := TX8) (N := 2) (As := [.int t0, .int (6 : Int32), .int l2]) (rest := []) (zm_X8_put ev8).2 (zm_X8_put ev8).1 (by decide) rfl (Or.inl rfl) mw_12_22 mw_12_23 mw_13_0 mw_3_13 mw_13_1 yk_X8_put (by decide) (by decide) rfl (Nat.le_of_ble_eq_true rfl) rfl dX11_enlist_32 ?_
  refine z_aload_n 1 dX11_enlist_35 rfl rfl ?_
  refine z_gP (ci := 11) (k := 1) (C := RX11) (T := TX11) (N := 14) rfl inlX11 (by decide) mw_1_19 (fun _ _ _ _ h9 => h9) hf (by decide) rfl dX11_enlist_36  (fun v9 hf => ?_)
  refine z_gP (ci := 1) (k := 3) (C := RX1) (T := TX1) (N := 8) rfl inlX1 (by decide) mw_29_16 (fun _ _ _ _ h9 => h9) hf (by decide) rfl dX11_enlist_39  (fun v10 hf => ?_)
  refine z_iload 0 dX11_enlist_42 rfl ?_
  refine z_iconst 5 5 dX11_enlist_44 (by decide) ?_
  refine z_iload_n 4 dX11_enlist_45 rfl rfl ?_
  obtain ⟨v11, ev11, hf⟩ := ob hf
  refine z_cVv (ci := 8) (T := TX8) (N := 2) (As := [.int t0, .int (5 : Int32), .int l3]) (rest := []) (zm_X8_put ev11).2 (zm_X8_put ev11).1 (by decide) rfl (Or.inl rfl) mw_12_22 mw_12_23 mw_13_0 mw_3_13 mw_13_1 yk_X8_put (by decide) (by decide) rfl (Nat.le_of_ble_eq_true rfl) rfl dX11_enlist_46 ?_
  refine z_iload 0 dX11_enlist_49 rfl ?_
  cases hf
  exact z_ireturn hE rfl dX11_enlist_51
set_option maxRecDepth 20000 in
theorem lm_X11_enlist {N : Nat} {s : AS} {l0 : Nat} {l1 : Nat} {l2 : Int32} {l3 : Int32} {r : Int32 × AS} (hf : f_X11_enlist N l0 l1 l2 l3 s = some r) : Le s r.2 := by
  unfold f_X11_enlist at hf
  split at hf
  · skip
    obtain ⟨v1, -, hf⟩ := ob hf
    obtain ⟨v2, -, hf⟩ := ob hf
    obtain ⟨v3, ev3, hf⟩ := ob hf
    refine Le.of (t := (s.1, s.2)) rfl ((lm_X8_add ev3).tr ?_)
    exact Le.via (le_X11_enlist_10 hf) rfl
  · cases hf
set_option maxRecDepth 20000 in
theorem zm_X11_enlist {N : Nat} {s : AS} {l0 : Nat} {l1 : Nat} {l2 : Int32} {l3 : Int32} {r : Int32 × AS} (hf : f_X11_enlist N l0 l1 l2 l3 s = some r) : isO s.1 l0 11 ∧ ∀ (l : Launch) (G : GG), Mt l G yX11_enlist cX11_enlist 5 (some .int) 4 [.ref l0, .ref l1, .int l2, .int l3] s (some (.int r.1)) r.2 := by
  have hf0 := hf
  unfold f_X11_enlist at hf
  split at hf
  · rename_i hO
    refine ⟨hO, fun l G => mt_of (Or.inl (by decide)) (Nat.le_of_ble_eq_true rfl) (lm_X11_enlist hf0) (fun E hE => ?_)⟩
    show Z E yX11_enlist cX11_enlist 5 (some .int) 4 s 0 [(0, .ref l0), (1, .ref l1), (2, .int l2), (3, .int l3)] []
    refine z_aload_n 0 dX11_enlist_0 rfl rfl ?_
    refine z_gP (ci := 11) (k := 1) (C := RX11) (T := TX11) (N := 14) rfl inlX11 (by decide) mw_1_19 (fun _ _ _ _ h9 => h9) hf (by decide) rfl dX11_enlist_1  (fun v1 hf => ?_)
    refine z_gP (ci := 1) (k := 3) (C := RX1) (T := TX1) (N := 8) rfl inlX1 (by decide) mw_29_16 (fun _ _ _ _ h9 => h9) hf (by decide) rfl dX11_enlist_4  (fun v2 hf => ?_)
    obtain ⟨v3, ev3, hf⟩ := ob hf
    refine z_cVi (ci := 8) (T := TX8) (N := 2) (As := []) (rest := []) (zm_X8_add ev3).2 (zm_X8_add ev3).1 (by decide) rfl (Or.inr (tg_le hE (le_X11_enlist_10 hf))) mw_12_18 mw_12_19 mw_12_20 mw_3_13 mw_12_21 yk_X8_add (by decide) (by decide) rfl (Nat.le_of_ble_eq_true rfl) rfl dX11_enlist_7 ?_
    exact zb_X11_enlist_10 hE hf
  · cases hf
set_option maxRecDepth 20000 in
theorem zb_X11_nearness_55 {N : Nat} {sh : Sh} {d : Dt} {r : Int32} {E : EV} (hE : TG E (some (.int r)) (sh, d))   (hf : f_X11_nearness_55 N sh  d = some r) : Z E yX11_nearness cX11_nearness 6 (some .int) 2 (sh, d) 55 [] [] := by
  unfold f_X11_nearness_55 at hf
  refine z_iconst 2 2 dX11_nearness_55 (by decide) ?_
  cases hf
  exact z_ireturn hE rfl dX11_nearness_56
set_option maxRecDepth 20000 in
theorem zb_X11_nearness_88 {N : Nat} {sh : Sh} {d : Dt} {r : Int32} {E : EV} (hE : TG E (some (.int r)) (sh, d))  {t0 : Int32} (hf : f_X11_nearness_88 N sh t0 d = some r) : Z E yX11_nearness cX11_nearness 6 (some .int) 2 (sh, d) 88 [] [.int t0] := by
  unfold f_X11_nearness_88 at hf
  cases hf
  exact z_ireturn hE rfl dX11_nearness_88
set_option maxRecDepth 20000 in
theorem zb_X11_nearness_83 {N : Nat} {sh : Sh} {d : Dt} {r : Int32} {E : EV} (hE : TG E (some (.int r)) (sh, d))   (hf : f_X11_nearness_83 N sh  d = some r) : Z E yX11_nearness cX11_nearness 6 (some .int) 2 (sh, d) 83 [] [] := by
  unfold f_X11_nearness_83 at hf
  refine z_iconst 1 1 dX11_nearness_83 (by decide) ?_
  refine z_goto 88 dX11_nearness_84 (by decide) ?_
  exact zb_X11_nearness_88 hE hf
set_option maxRecDepth 20000 in
theorem zm_X11_nearness {N : Nat} {sh : Sh} {d : Dt} {l0 : Nat} {l1 : Int32} {l2 : Int32} {r : Int32} (hf : f_X11_nearness N sh l0 l1 l2 d = some r) : isO sh l0 11 ∧ ∀ (l : Launch) (G : GG), Mt l G yX11_nearness cX11_nearness 6 (some .int) 2 [.ref l0, .int l1, .int l2] (sh, d) (some (.int r)) (sh, d) := by
  have hf0 := hf
  unfold f_X11_nearness at hf
  split at hf
  · rename_i hO
    refine ⟨hO, fun l G => mt_of (Or.inl (by decide)) (Nat.le_of_ble_eq_true rfl) Le.rf (fun E hE => ?_)⟩
    show Z E yX11_nearness cX11_nearness 6 (some .int) 2 (sh, d) 0 [(0, .ref l0), (1, .int l1), (2, .int l2)] []
    refine z_aload_n 0 dX11_nearness_0 rfl rfl ?_
    refine z_gP (ci := 11) (k := 1) (C := RX11) (T := TX11) (N := 14) rfl inlX11 (by decide) mw_1_19 (fun _ _ _ _ h9 => h9) hf (by decide) rfl dX11_nearness_1  (fun v1 hf => ?_)
    refine z_gP (ci := 1) (k := 2) (C := RX1) (T := TX1) (N := 8) rfl inlX1 (by decide) mw_19_21 (fun _ _ _ _ h9 => h9) hf (by decide) rfl dX11_nearness_4  (fun v2 hf => ?_)
    refine z_iload_n 1 dX11_nearness_7 rfl rfl ?_
    refine z_iconst 0 0 dX11_nearness_8 (by decide) ?_
    obtain ⟨v3, ev3, hf⟩ := ob hf
    refine z_cVi (ci := 8) (T := TX8) (N := 2) (As := [.int l1, .int (0 : Int32)]) (rest := []) (zm_X8_get ev3).2 (zm_X8_get ev3).1 (by decide) rfl (Or.inl rfl) mw_14_2 mw_10_11 mw_10_12 mw_3_13 mw_10_13 yk_X8_get (by decide) (by decide) rfl (Nat.le_of_ble_eq_true rfl) rfl dX11_nearness_9 ?_
    refine z_istore_n [(3, .int v3), (0, .ref l0), (1, .int l1), (2, .int l2)] dX11_nearness_12 rfl (by decide) rfl ?_
    refine z_aload_n 1 dX11_nearness_13 rfl rfl ?_
    refine z_gP (ci := 11) (k := 1) (C := RX11) (T := TX11) (N := 14) rfl inlX11 (by decide) mw_1_19 (fun _ _ _ _ h9 => h9) hf (by decide) rfl dX11_nearness_14  (fun v4 hf => ?_)
    refine z_gP (ci := 1) (k := 1) (C := RX1) (T := TX1) (N := 8) rfl inlX1 (by decide) mw_12_12 (fun _ _ _ _ h9 => h9) hf (by decide) rfl dX11_nearness_17  (fun v5 hf => ?_)
    refine z_iload_n 3 dX11_nearness_20 rfl rfl ?_
    refine z_bipush 7 7 dX11_nearness_21 (by decide) ?_
    obtain ⟨v6, ev6, hf⟩ := ob hf
    refine z_cVi (ci := 8) (T := TX8) (N := 2) (As := [.int l2, .int (7 : Int32)]) (rest := []) (zm_X8_get ev6).2 (zm_X8_get ev6).1 (by decide) rfl (Or.inl rfl) mw_14_2 mw_10_11 mw_10_12 mw_3_13 mw_10_13 yk_X8_get (by decide) (by decide) rfl (Nat.le_of_ble_eq_true rfl) rfl dX11_nearness_23 ?_
    refine z_istore [(4, .int v6), (3, .int v3), (0, .ref l0), (1, .int l1), (2, .int l2)] dX11_nearness_26 (by decide) rfl ?_
    refine z_aload_n 2 dX11_nearness_28 rfl rfl ?_
    refine z_gP (ci := 11) (k := 1) (C := RX11) (T := TX11) (N := 14) rfl inlX11 (by decide) mw_1_19 (fun _ _ _ _ h9 => h9) hf (by decide) rfl dX11_nearness_29  (fun v7 hf => ?_)
    refine z_gP (ci := 1) (k := 1) (C := RX1) (T := TX1) (N := 8) rfl inlX1 (by decide) mw_12_12 (fun _ _ _ _ h9 => h9) hf (by decide) rfl dX11_nearness_32  (fun v8 hf => ?_)
    refine z_iload_n 4 dX11_nearness_35 rfl rfl ?_
    refine z_bipush 8 8 dX11_nearness_36 (by decide) ?_
    obtain ⟨v9, ev9, hf⟩ := ob hf
    refine z_cVi (ci := 8) (T := TX8) (N := 2) (As := [.int l2, .int (8 : Int32)]) (rest := []) (zm_X8_get ev9).2 (zm_X8_get ev9).1 (by decide) rfl (Or.inl rfl) mw_14_2 mw_10_11 mw_10_12 mw_3_13 mw_10_13 yk_X8_get (by decide) (by decide) rfl (Nat.le_of_ble_eq_true rfl) rfl dX11_nearness_38 ?_
    refine z_istore [(5, .int v9), (4, .int v6), (3, .int v3), (0, .ref l0), (1, .int l1), (2, .int l2)] dX11_nearness_41 (by decide) rfl ?_
    refine z_iload_n 2 dX11_nearness_43 rfl rfl ?_
    refine z_iload 1 dX11_nearness_44 rfl ?_
    refine z_icmp_eq 55 hf dX11_nearness_46 (by decide) (fun hf => ?_) (fun hf => ?_)
    · refine z_lv [] [] rfl ?_
      exact zb_X11_nearness_55 hE hf
    · refine z_iload_n 2 dX11_nearness_49 rfl rfl ?_
      refine z_iload 0 dX11_nearness_50 rfl ?_
      refine z_icmp_ne 57 hf dX11_nearness_52 (by decide) (fun hf => ?_) (fun hf => ?_)
      · refine z_aload_n 3 dX11_nearness_57 rfl rfl ?_
        refine z_gP (ci := 11) (k := 3) (C := RX11) (T := TX11) (N := 14) rfl inlX11 (by decide) mw_2_0 (fun _ _ _ _ h9 => h9) hf (by decide) rfl dX11_nearness_58  (fun v10 hf => ?_)
        refine z_iload_n 2 dX11_nearness_61 rfl rfl ?_
        refine z_iload 1 dX11_nearness_62 rfl ?_
        obtain ⟨v11, ev11, hf⟩ := ob hf
        refine z_cVi (ci := 10) (T := TX10) (N := 6) (As := [.int v3, .int v6]) (rest := []) (zm_X10_areJoined ev11).2 (zm_X10_areJoined ev11).1 (by decide) rfl (Or.inl rfl) mw_28_0 mw_28_1 mw_28_2 mw_1_23 mw_28_3 yk_X10_areJoined (by decide) (by decide) rfl (Nat.le_of_ble_eq_true rfl) rfl dX11_nearness_64 ?_
        refine z_if_ne 83 hf dX11_nearness_67 (by decide) (fun hf => ?_) (fun hf => ?_)
        · refine z_lv [] [] rfl ?_
          exact zb_X11_nearness_83 hE hf
        · refine z_aload_n 3 dX11_nearness_70 rfl rfl ?_
          refine z_gP (ci := 11) (k := 3) (C := RX11) (T := TX11) (N := 14) rfl inlX11 (by decide) mw_2_0 (fun _ _ _ _ h9 => h9) hf (by decide) rfl dX11_nearness_71  (fun v12 hf => ?_)
          refine z_iload_n 2 dX11_nearness_74 rfl rfl ?_
          refine z_iload 0 dX11_nearness_75 rfl ?_
          obtain ⟨v13, ev13, hf⟩ := ob hf
          refine z_cVi (ci := 10) (T := TX10) (N := 6) (As := [.int v3, .int v9]) (rest := []) (zm_X10_areJoined ev13).2 (zm_X10_areJoined ev13).1 (by decide) rfl (Or.inl rfl) mw_28_0 mw_28_1 mw_28_2 mw_1_23 mw_28_3 yk_X10_areJoined (by decide) (by decide) rfl (Nat.le_of_ble_eq_true rfl) rfl dX11_nearness_77 ?_
          refine z_if_eq 87 hf dX11_nearness_80 (by decide) (fun hf => ?_) (fun hf => ?_)
          · refine z_iconst 0 0 dX11_nearness_87 (by decide) ?_
            refine z_lv [] [] rfl ?_
            exact zb_X11_nearness_88 hE hf
          · refine z_lv [] [] rfl ?_
            exact zb_X11_nearness_83 hE hf
      · refine z_lv [] [] rfl ?_
        exact zb_X11_nearness_55 hE hf
  · cases hf
set_option maxRecDepth 20000 in
theorem zb_X11_fallOn_164 {N : Nat} {sh : Sh} {r : Int32 × Dt} {E : EV} (hE : TG E (some (.int r.1)) (sh, r.2))  {l4 : Int32} {t0 : Nat} {t1 : Int32} {t2 : Int32} {t3 : Int32} {d : Dt} (hf : f_X11_fallOn_164 N sh l4 t0 t1 t2 t3 d = some r) : Z E yX11_fallOn cX11_fallOn 6 (some .boolean) 3 (sh, d) 164 [(4, .int l4)] [.int t3, .int t2, .int t1, .ref t0] := by
  unfold f_X11_fallOn_164 at hf
  obtain ⟨v22, ev22, hf⟩ := ob hf
  refine z_cVv (ci := 8) (T := TX8) (N := 2) (As := [.int t1, .int t2, .int t3]) (rest := []) (zm_X8_put ev22).2 (zm_X8_put ev22).1 (by decide) rfl (Or.inl rfl) mw_12_22 mw_12_23 mw_13_0 mw_3_13 mw_13_1 yk_X8_put (by decide) (by decide) rfl (Nat.le_of_ble_eq_true rfl) rfl dX11_fallOn_164 ?_
  refine z_iload 0 dX11_fallOn_167 rfl ?_
  obtain ⟨v23, ev23, hg⟩ := ob hf
  obtain ⟨rfl, hbv23⟩ := o_bool_spec ev23
  cases hg
  exact z_zreturn hE rfl hbv23 dX11_fallOn_169
set_option maxRecDepth 20000 in
theorem zb_X11_fallOn_145 {N : Nat} {sh : Sh} {r : Int32 × Dt} {E : EV} (hE : TG E (some (.int r.1)) (sh, r.2))  {l0 : Nat} {l1 : Int32} {l4 : Int32} {d : Dt} (hf : f_X11_fallOn_145 N sh l0 l1 l4 d = some r) : Z E yX11_fallOn cX11_fallOn 6 (some .boolean) 3 (sh, d) 145 [(0, .ref l0), (1, .int l1), (4, .int l4)] [] := by
  unfold f_X11_fallOn_145 at hf
  refine z_aload_n 0 dX11_fallOn_145 rfl rfl ?_
  refine z_gP (ci := 11) (k := 1) (C := RX11) (T := TX11) (N := 14) rfl inlX11 (by decide) mw_1_19 (fun _ _ _ _ h9 => h9) hf (by decide) rfl dX11_fallOn_146  (fun v20 hf => ?_)
  refine z_gP (ci := 1) (k := 1) (C := RX1) (T := TX1) (N := 8) rfl inlX1 (by decide) mw_12_12 (fun _ _ _ _ h9 => h9) hf (by decide) rfl dX11_fallOn_149  (fun v21 hf => ?_)
  refine z_iload_n 1 dX11_fallOn_152 rfl rfl ?_
  refine z_iconst 1 1 dX11_fallOn_153 (by decide) ?_
  refine z_iload 2 dX11_fallOn_154 rfl ?_
  refine z_if_eq 163 hf dX11_fallOn_156 (by decide) (fun hf => ?_) (fun hf => ?_)
  · refine z_iconst 1 1 dX11_fallOn_163 (by decide) ?_
    refine z_lv [(4, .int l4)] [2] rfl ?_
    exact zb_X11_fallOn_164 hE hf
  · refine z_iconst 0 0 dX11_fallOn_159 (by decide) ?_
    refine z_goto 164 dX11_fallOn_160 (by decide) ?_
    refine z_lv [(4, .int l4)] [2] rfl ?_
    exact zb_X11_fallOn_164 hE hf
set_option maxRecDepth 20000 in
theorem zb_X11_fallOn_89 {N : Nat} {sh : Sh} {r : Int32 × Dt} {E : EV} (hE : TG E (some (.int r.1)) (sh, r.2))  {l0 : Nat} {l1 : Int32} {l2 : UInt32} {l3 : UInt32} {t0 : Int32} {d : Dt} (hf : f_X11_fallOn_89 N sh l0 l1 l2 l3 t0 d = some r) : Z E yX11_fallOn cX11_fallOn 6 (some .boolean) 3 (sh, d) 89 [(0, .ref l0), (1, .int l1), (2, .float l2), (3, .float l3)] [.int t0] := by
  unfold f_X11_fallOn_89 at hf
  refine z_istore [(4, .int t0), (0, .ref l0), (1, .int l1), (2, .float l2), (3, .float l3)] dX11_fallOn_89 (by decide) rfl ?_
  refine z_iload 0 dX11_fallOn_91 rfl ?_
  refine z_if_eq 145 hf dX11_fallOn_93 (by decide) (fun hf => ?_) (fun hf => ?_)
  · refine z_lv [(0, .ref l0), (1, .int l1), (4, .int t0)] [1, 2, 0] rfl ?_
    exact zb_X11_fallOn_145 hE hf
  · refine z_ldcw mw_27_17 dX11_fallOn_96 ?_
    refine z_fload_n 3 dX11_fallOn_99 rfl rfl ?_
    refine z_fload_n 4 dX11_fallOn_100 rfl rfl ?_
    refine z_fdiv hf dX11_fallOn_101  (fun v12 hf => ?_)
    refine z_ldcwf mw_27_18 dX11_fallOn_102 ?_
    refine z_fmul hf dX11_fallOn_105  (fun v13 hf => ?_)
    refine z_f2i dX11_fallOn_106 ?_
    refine z_min mw_27_19 mw_9_20 mw_8_22 mw_9_21 (by decide) (Nat.le_of_ble_eq_true rfl) dX11_fallOn_107 ?_
    refine z_istore [(5, .int (o_min (100000 : Int32) (FP.f2i v13))), (4, .int t0), (0, .ref l0), (1, .int l1), (2, .float l2), (3, .float l3)] dX11_fallOn_110 (by decide) rfl ?_
    refine z_aload_n 2 dX11_fallOn_112 rfl rfl ?_
    refine z_gP (ci := 11) (k := 1) (C := RX11) (T := TX11) (N := 14) rfl inlX11 (by decide) mw_1_19 (fun _ _ _ _ h9 => h9) hf (by decide) rfl dX11_fallOn_113  (fun v14 hf => ?_)
    refine z_gP (ci := 1) (k := 1) (C := RX1) (T := TX1) (N := 8) rfl inlX1 (by decide) mw_12_12 (fun _ _ _ _ h9 => h9) hf (by decide) rfl dX11_fallOn_116  (fun v15 hf => ?_)
    refine z_iload_n 3 dX11_fallOn_119 rfl rfl ?_
    refine z_iconst 0 0 dX11_fallOn_120 (by decide) ?_
    refine z_ldcw mw_27_17 dX11_fallOn_121 ?_
    refine z_aload_n 2 dX11_fallOn_124 rfl rfl ?_
    refine z_gP (ci := 11) (k := 1) (C := RX11) (T := TX11) (N := 14) rfl inlX11 (by decide) mw_1_19 (fun _ _ _ _ h9 => h9) hf (by decide) rfl dX11_fallOn_125  (fun v16 hf => ?_)
    refine z_gP (ci := 1) (k := 1) (C := RX1) (T := TX1) (N := 8) rfl inlX1 (by decide) mw_12_12 (fun _ _ _ _ h9 => h9) hf (by decide) rfl dX11_fallOn_128  (fun v17 hf => ?_)
    refine z_iload_n 3 dX11_fallOn_131 rfl rfl ?_
    refine z_iconst 0 0 dX11_fallOn_132 (by decide) ?_
    obtain ⟨v18, ev18, hf⟩ := ob hf
    refine z_cVi (ci := 8) (T := TX8) (N := 2) (As := [.int l1, .int (0 : Int32)]) (rest := [.int (100000 : Int32), .int (0 : Int32), .int l1, .ref v15]) (zm_X8_get ev18).2 (zm_X8_get ev18).1 (by decide) rfl (Or.inl rfl) mw_14_2 mw_10_11 mw_10_12 mw_3_13 mw_10_13 yk_X8_get (by decide) (by decide) rfl (Nat.le_of_ble_eq_true rfl) rfl dX11_fallOn_133 ?_
    refine z_iload 0 dX11_fallOn_136 rfl ?_
    refine z_iadd dX11_fallOn_138 ?_
    refine z_min mw_27_19 mw_9_20 mw_8_22 mw_9_21 (by decide) (Nat.le_of_ble_eq_true rfl) dX11_fallOn_139 ?_
    obtain ⟨v19, ev19, hf⟩ := ob hf
    refine z_cVv (ci := 8) (T := TX8) (N := 2) (As := [.int l1, .int (0 : Int32), .int (o_min (100000 : Int32) (v18 + (o_min (100000 : Int32) (FP.f2i v13))))]) (rest := []) (zm_X8_put ev19).2 (zm_X8_put ev19).1 (by decide) rfl (Or.inl rfl) mw_12_22 mw_12_23 mw_13_0 mw_3_13 mw_13_1 yk_X8_put (by decide) (by decide) rfl (Nat.le_of_ble_eq_true rfl) rfl dX11_fallOn_142 ?_
    refine z_lv [(0, .ref l0), (1, .int l1), (4, .int t0)] [2, 3, 1] rfl ?_
    exact zb_X11_fallOn_145 hE hf
set_option maxRecDepth 20000 in
theorem zb_X11_fallOn_78 {N : Nat} {sh : Sh} {r : Int32 × Dt} {E : EV} (hE : TG E (some (.int r.1)) (sh, r.2))  {l0 : Nat} {l1 : Int32} {l2 : UInt32} {l3 : UInt32} {d : Dt} (hf : f_X11_fallOn_78 N sh l0 l1 l2 l3 d = some r) : Z E yX11_fallOn cX11_fallOn 6 (some .boolean) 3 (sh, d) 78 [(0, .ref l0), (1, .int l1), (2, .float l2), (3, .float l3)] [] := by
  unfold f_X11_fallOn_78 at hf
  refine z_fload_n 3 dX11_fallOn_78 rfl rfl ?_
  refine z_fconst0 dX11_fallOn_79 ?_
  refine z_fcmp dX11_fallOn_80 ?_
  refine z_if_le 88 hf dX11_fallOn_81 (by decide) (fun hf => ?_) (fun hf => ?_)
  · refine z_iconst 0 0 dX11_fallOn_88 (by decide) ?_
    exact zb_X11_fallOn_89 hE hf
  · refine z_iconst 1 1 dX11_fallOn_84 (by decide) ?_
    refine z_goto 89 dX11_fallOn_85 (by decide) ?_
    exact zb_X11_fallOn_89 hE hf
set_option maxRecDepth 20000 in
theorem zb_X11_fallOn_72 {N : Nat} {sh : Sh} {k7 : Nat → Int32 → UInt32 → UInt32 → Int32 → Dt → Option (Int32 × Dt)} {r : Int32 × Dt} {E : EV} (hE : TG E (some (.int r.1)) (sh, r.2)) (hk7 : ∀ (l0 : Nat) (l1 : Int32) (l2 : UInt32) (l3 : UInt32) (l4 : Int32) (d : Dt), k7 l0 l1 l2 l3 l4 d = some r → Z E yX11_fallOn cX11_fallOn 6 (some .boolean) 3 (sh, d) 7 [(0, .ref l0), (1, .int l1), (2, .float l2), (3, .float l3), (4, .int l4)] []) {l0 : Nat} {l1 : Int32} {l2 : UInt32} {l3 : UInt32} {l4 : Int32} {d : Dt} (hf : f_X11_fallOn_72 N sh k7 l0 l1 l2 l3 l4 d = some r) : Z E yX11_fallOn cX11_fallOn 6 (some .boolean) 3 (sh, d) 72 [(0, .ref l0), (1, .int l1), (2, .float l2), (3, .float l3), (4, .int l4)] [] := by
  unfold f_X11_fallOn_72 at hf
  refine z_iinc [(4, .int (l4 + 1)), (0, .ref l0), (1, .int l1), (2, .float l2), (3, .float l3)] 4 (l4 + 1) dX11_fallOn_72 rfl rfl (by decide) rfl ?_
  refine z_goto 7 dX11_fallOn_75 (by decide) ?_
  refine z_lv [(0, .ref l0), (1, .int l1), (2, .float l2), (3, .float l3), (4, .int (l4 + 1))] [1, 2, 3, 4, 0] rfl ?_
  exact hk7 _ _ _ _ _ _ hf
set_option maxRecDepth 20000 in
theorem zb_X11_fallOn_45 {N : Nat} {sh : Sh} {k7 : Nat → Int32 → UInt32 → UInt32 → Int32 → Dt → Option (Int32 × Dt)} {r : Int32 × Dt} {E : EV} (hE : TG E (some (.int r.1)) (sh, r.2)) (hk7 : ∀ (l0 : Nat) (l1 : Int32) (l2 : UInt32) (l3 : UInt32) (l4 : Int32) (d : Dt), k7 l0 l1 l2 l3 l4 d = some r → Z E yX11_fallOn cX11_fallOn 6 (some .boolean) 3 (sh, d) 7 [(0, .ref l0), (1, .int l1), (2, .float l2), (3, .float l3), (4, .int l4)] []) {l0 : Nat} {l1 : Int32} {l2 : UInt32} {l3 : UInt32} {l4 : Int32} {t0 : Int32} {d : Dt} (hf : f_X11_fallOn_45 N sh k7 l0 l1 l2 l3 l4 t0 d = some r) : Z E yX11_fallOn cX11_fallOn 6 (some .boolean) 3 (sh, d) 45 [(0, .ref l0), (1, .int l1), (2, .float l2), (3, .float l3), (4, .int l4)] [.int t0] := by
  unfold f_X11_fallOn_45 at hf
  refine z_istore [(5, .int t0), (0, .ref l0), (1, .int l1), (2, .float l2), (3, .float l3), (4, .int l4)] dX11_fallOn_45 (by decide) rfl ?_
  refine z_iload 0 dX11_fallOn_47 rfl ?_
  refine z_if_le 72 hf dX11_fallOn_49 (by decide) (fun hf => ?_) (fun hf => ?_)
  · refine z_lv [(0, .ref l0), (1, .int l1), (2, .float l2), (3, .float l3), (4, .int l4)] [1, 2, 3, 4, 5] rfl ?_
    exact zb_X11_fallOn_72 hE hk7 hf
  · refine z_fload_n 3 dX11_fallOn_52 rfl rfl ?_
    refine z_aload_n 1 dX11_fallOn_53 rfl rfl ?_
    refine z_gP (ci := 11) (k := 7) (C := RX11) (T := TX11) (N := 14) rfl inlX11 (by decide) mw_2_12 (fun _ _ _ _ h9 => h9) hf (by decide) rfl dX11_fallOn_54  (fun v7 hf => ?_)
    refine z_iload 5 dX11_fallOn_57 rfl ?_
    refine z_aF hf dX11_fallOn_59  (fun v8 hf => ?_)
    refine z_iload 0 dX11_fallOn_60 rfl ?_
    refine z_i2f dX11_fallOn_62 ?_
    refine z_fmul hf dX11_fallOn_63  (fun v9 hf => ?_)
    refine z_fadd hf dX11_fallOn_64  (fun v10 hf => ?_)
    refine z_fstore_n [(2, .float v10), (5, .int t0), (0, .ref l0), (1, .int l1), (3, .float l3), (4, .int l4)] dX11_fallOn_65 rfl (by decide) rfl ?_
    refine z_fload_n 4 dX11_fallOn_66 rfl rfl ?_
    refine z_iload 1 dX11_fallOn_67 rfl ?_
    refine z_i2f dX11_fallOn_69 ?_
    refine z_fadd hf dX11_fallOn_70  (fun v11 hf => ?_)
    refine z_fstore_n [(3, .float v11), (2, .float v10), (5, .int t0), (0, .ref l0), (1, .int l1), (4, .int l4)] dX11_fallOn_71 rfl (by decide) rfl ?_
    refine z_lv [(0, .ref l0), (1, .int l1), (2, .float v10), (3, .float v11), (4, .int l4)] [3, 4, 1, 0, 5] rfl ?_
    exact zb_X11_fallOn_72 hE hk7 hf
set_option maxRecDepth 20000 in
theorem zg_X11_fallOn_7 {N : Nat} {sh : Sh} {r : Int32 × Dt} {k7 : Nat → Int32 → UInt32 → UInt32 → Int32 → Dt → Option (Int32 × Dt)} {E : EV} (hE : TG E (some (.int r.1)) (sh, r.2))  (hk7 : ∀ (l0 : Nat) (l1 : Int32) (l2 : UInt32) (l3 : UInt32) (l4 : Int32) (d : Dt), k7 l0 l1 l2 l3 l4 d = some r → Z E yX11_fallOn cX11_fallOn 6 (some .boolean) 3 (sh, d) 7 [(0, .ref l0), (1, .int l1), (2, .float l2), (3, .float l3), (4, .int l4)] []) {l0 : Nat} {l1 : Int32} {l2 : UInt32} {l3 : UInt32} {l4 : Int32} {d : Dt} (hf : g_X11_fallOn_7 N sh k7 l0 l1 l2 l3 l4 d = some r) : Z E yX11_fallOn cX11_fallOn 6 (some .boolean) 3 (sh, d) 7 [(0, .ref l0), (1, .int l1), (2, .float l2), (3, .float l3), (4, .int l4)] [] := by
  unfold g_X11_fallOn_7 at hf
  refine z_iload 4 dX11_fallOn_7 rfl ?_
  refine z_aload_n 0 dX11_fallOn_9 rfl rfl ?_
  refine z_gP (ci := 11) (k := 1) (C := RX11) (T := TX11) (N := 14) rfl inlX11 (by decide) mw_1_19 (fun _ _ _ _ h9 => h9) hf (by decide) rfl dX11_fallOn_10  (fun v1 hf => ?_)
  refine z_gP (ci := 1) (k := 2) (C := RX1) (T := TX1) (N := 8) rfl inlX1 (by decide) mw_19_21 (fun _ _ _ _ h9 => h9) hf (by decide) rfl dX11_fallOn_13  (fun v2 hf => ?_)
  refine z_gI (ci := 8) (k := 1) (C := RX8) (T := TX8) (N := 2) rfl inlX8 (by decide) mw_12_13 (fun _ _ _ _ h9 => h9) hf (by decide) rfl dX11_fallOn_16  (fun v3 hf => ?_)
  refine z_icmp_ge 78 hf dX11_fallOn_19 (by decide) (fun hf => ?_) (fun hf => ?_)
  · refine z_lv [(0, .ref l0), (1, .int l1), (2, .float l2), (3, .float l3)] [0, 1, 2, 3] rfl ?_
    exact zb_X11_fallOn_78 hE hf
  · refine z_aload_n 0 dX11_fallOn_22 rfl rfl ?_
    refine z_gP (ci := 11) (k := 7) (C := RX11) (T := TX11) (N := 14) rfl inlX11 (by decide) mw_2_12 (fun _ _ _ _ h9 => h9) hf (by decide) rfl dX11_fallOn_23  (fun v4 hf => ?_)
    refine z_iload 4 dX11_fallOn_26 rfl ?_
    refine z_aF hf dX11_fallOn_28  (fun v5 hf => ?_)
    refine z_fconst0 dX11_fallOn_29 ?_
    refine z_fcmp dX11_fallOn_30 ?_
    refine z_if_ge 38 hf dX11_fallOn_31 (by decide) (fun hf => ?_) (fun hf => ?_)
    · refine z_aload_n 0 dX11_fallOn_38 rfl rfl ?_
      refine z_iload 4 dX11_fallOn_39 rfl ?_
      refine z_iload_n 1 dX11_fallOn_41 rfl rfl ?_
      obtain ⟨v6, ev6, hf⟩ := ob hf
      refine z_cVi (ci := 11) (T := TX11) (N := 14) (As := [.int l4, .int l1]) (rest := []) (zm_X11_nearness ev6).2 (zm_X11_nearness ev6).1 (by decide) rfl (Or.inl rfl) mw_27_20 mw_27_21 mw_27_22 mw_1_2 mw_27_23 yk_X11_nearness (by decide) (by decide) rfl (Nat.le_of_ble_eq_true rfl) rfl dX11_fallOn_42 ?_
      exact zb_X11_fallOn_45 hE hk7 hf
    · refine z_iconst 0 0 dX11_fallOn_34 (by decide) ?_
      refine z_goto 45 dX11_fallOn_35 (by decide) ?_
      exact zb_X11_fallOn_45 hE hk7 hf
set_option maxRecDepth 20000 in
theorem zb_X11_fallOn_7 {N : Nat} {sh : Sh} {r : Int32 × Dt} {E : EV} (hE : TG E (some (.int r.1)) (sh, r.2))  : ∀ (n : Nat) (l0 : Nat) (l1 : Int32) (l2 : UInt32) (l3 : UInt32) (l4 : Int32) (d : Dt), f_X11_fallOn_7 N sh n l0 l1 l2 l3 l4 d = some r → Z E yX11_fallOn cX11_fallOn 6 (some .boolean) 3 (sh, d) 7 [(0, .ref l0), (1, .int l1), (2, .float l2), (3, .float l3), (4, .int l4)] [] := by
  intro n
  induction n with
  | zero => intro l0 l1 l2 l3 l4 d hf; cases hf
  | succ n ih => intro l0 l1 l2 l3 l4 d hf; exact zg_X11_fallOn_7 hE ih hf
set_option maxRecDepth 20000 in
theorem zm_X11_fallOn {N : Nat} {sh : Sh} {d : Dt} {l0 : Nat} {l1 : Int32} {r : Int32 × Dt} (hf : f_X11_fallOn N sh l0 l1 d = some r) : isO sh l0 11 ∧ ∀ (l : Launch) (G : GG), Mt l G yX11_fallOn cX11_fallOn 6 (some .boolean) 3 [.ref l0, .int l1] (sh, d) (some (.int r.1)) (sh, r.2) := by
  have hf0 := hf
  unfold f_X11_fallOn at hf
  split at hf
  · rename_i hO
    refine ⟨hO, fun l G => mt_of (Or.inl (by decide)) (Nat.le_of_ble_eq_true rfl) Le.rf (fun E hE => ?_)⟩
    show Z E yX11_fallOn cX11_fallOn 6 (some .boolean) 3 (sh, d) 0 [(0, .ref l0), (1, .int l1)] []
    refine z_fconst0 dX11_fallOn_0 ?_
    refine z_fstore_n [(2, .float FP.fconst0), (0, .ref l0), (1, .int l1)] dX11_fallOn_1 rfl (by decide) rfl ?_
    refine z_fconst0 dX11_fallOn_2 ?_
    refine z_fstore_n [(3, .float FP.fconst0), (2, .float FP.fconst0), (0, .ref l0), (1, .int l1)] dX11_fallOn_3 rfl (by decide) rfl ?_
    refine z_iconst 0 0 dX11_fallOn_4 (by decide) ?_
    refine z_istore [(4, .int (0 : Int32)), (3, .float FP.fconst0), (2, .float FP.fconst0), (0, .ref l0), (1, .int l1)] dX11_fallOn_5 (by decide) rfl ?_
    refine z_lv [(0, .ref l0), (1, .int l1), (2, .float FP.fconst0), (3, .float FP.fconst0), (4, .int (0 : Int32))] [3, 4, 2, 1, 0] rfl ?_
    exact zb_X11_fallOn_7 hE N _ _ _ _ _ _ hf
  · cases hf
set_option maxRecDepth 20000 in
theorem zb_X11_findings_30 {N : Nat} {sh : Sh} {d : Dt} {r : Int32} {E : EV} (hE : TG E (some (.int r)) (sh, d))  {t0 : Int32} (hf : f_X11_findings_30 N sh t0 d = some r) : Z E yX11_findings cX11_findings 2 (some .int) 1 (sh, d) 30 [] [.int t0] := by
  unfold f_X11_findings_30 at hf
  cases hf
  exact z_ireturn hE rfl dX11_findings_30
set_option maxRecDepth 20000 in
theorem zb_X11_findings_28 {N : Nat} {sh : Sh} {d : Dt} {r : Int32} {E : EV} (hE : TG E (some (.int r)) (sh, d))   (hf : f_X11_findings_28 N sh  d = some r) : Z E yX11_findings cX11_findings 2 (some .int) 1 (sh, d) 28 [] [] := by
  unfold f_X11_findings_28 at hf
  refine z_bipush (-2) (-2) dX11_findings_28 (by decide) ?_
  exact zb_X11_findings_30 hE hf
set_option maxRecDepth 20000 in
theorem zm_X11_findings {N : Nat} {sh : Sh} {d : Dt} {l0 : Nat} {l1 : Int32} {r : Int32} (hf : f_X11_findings N sh l0 l1 d = some r) : isO sh l0 11 ∧ ∀ (l : Launch) (G : GG), Mt l G yX11_findings cX11_findings 2 (some .int) 1 [.ref l0, .int l1] (sh, d) (some (.int r)) (sh, d) := by
  have hf0 := hf
  unfold f_X11_findings at hf
  split at hf
  · rename_i hO
    refine ⟨hO, fun l G => mt_of (Or.inl (by decide)) (Nat.le_of_ble_eq_true rfl) Le.rf (fun E hE => ?_)⟩
    show Z E yX11_findings cX11_findings 2 (some .int) 1 (sh, d) 0 [(0, .ref l0), (1, .int l1)] []
    refine z_iload_n 1 dX11_findings_0 rfl rfl ?_
    refine z_if_lt 28 hf dX11_findings_1 (by decide) (fun hf => ?_) (fun hf => ?_)
    · refine z_lv [] [] rfl ?_
      exact zb_X11_findings_28 hE hf
    · refine z_iload_n 1 dX11_findings_4 rfl rfl ?_
      refine z_aload_n 0 dX11_findings_5 rfl rfl ?_
      refine z_gP (ci := 11) (k := 0) (C := RX11) (T := TX11) (N := 14) rfl inlX11 (by decide) mw_1_15 (fun _ _ _ _ h9 => h9) hf (by decide) rfl dX11_findings_6  (fun v1 hf => ?_)
      refine z_gP (ci := 2) (k := 0) (C := RX2) (T := TX2) (N := 4) rfl inlX2 (by decide) mw_58_20 (fun _ _ _ _ h9 => h9) hf (by decide) rfl dX11_findings_9  (fun v2 hf => ?_)
      refine z_aLen hf dX11_findings_12  (fun v3 hf => ?_)
      refine z_icmp_ge 28 hf dX11_findings_13 (by decide) (fun hf => ?_) (fun hf => ?_)
      · refine z_lv [] [] rfl ?_
        exact zb_X11_findings_28 hE hf
      · refine z_aload_n 0 dX11_findings_16 rfl rfl ?_
        refine z_gP (ci := 11) (k := 0) (C := RX11) (T := TX11) (N := 14) rfl inlX11 (by decide) mw_1_15 (fun _ _ _ _ h9 => h9) hf (by decide) rfl dX11_findings_17  (fun v4 hf => ?_)
        refine z_gP (ci := 2) (k := 0) (C := RX2) (T := TX2) (N := 4) rfl inlX2 (by decide) mw_58_20 (fun _ _ _ _ h9 => h9) hf (by decide) rfl dX11_findings_20  (fun v5 hf => ?_)
        refine z_iload_n 1 dX11_findings_23 rfl rfl ?_
        refine z_aI hf dX11_findings_24  (fun v6 hf => ?_)
        refine z_goto 30 dX11_findings_25 (by decide) ?_
        refine z_lv [] [] rfl ?_
        exact zb_X11_findings_30 hE hf
  · cases hf
set_option maxRecDepth 20000 in
theorem zb_X1_hasCrossing_17 {N : Nat} {sh : Sh} {d : Dt} {r : Int32} {E : EV} (hE : TG E (some (.int r)) (sh, d))  {t0 : Int32} (hf : f_X1_hasCrossing_17 N sh t0 d = some r) : Z E yX1_hasCrossing cX1_hasCrossing 2 (some .boolean) 1 (sh, d) 17 [] [.int t0] := by
  unfold f_X1_hasCrossing_17 at hf
  obtain ⟨v2, ev2, hg⟩ := ob hf
  obtain ⟨rfl, hbv2⟩ := o_bool_spec ev2
  cases hg
  exact z_zreturn hE rfl hbv2 dX1_hasCrossing_17
set_option maxRecDepth 20000 in
theorem zb_X1_hasCrossing_16 {N : Nat} {sh : Sh} {d : Dt} {r : Int32} {E : EV} (hE : TG E (some (.int r)) (sh, d))   (hf : f_X1_hasCrossing_16 N sh  d = some r) : Z E yX1_hasCrossing cX1_hasCrossing 2 (some .boolean) 1 (sh, d) 16 [] [] := by
  unfold f_X1_hasCrossing_16 at hf
  refine z_iconst 0 0 dX1_hasCrossing_16 (by decide) ?_
  exact zb_X1_hasCrossing_17 hE hf
set_option maxRecDepth 20000 in
theorem zm_X1_hasCrossing {N : Nat} {sh : Sh} {d : Dt} {l0 : Nat} {l1 : Int32} {r : Int32} (hf : f_X1_hasCrossing N sh l0 l1 d = some r) : isO sh l0 1 ∧ ∀ (l : Launch) (G : GG), Mt l G yX1_hasCrossing cX1_hasCrossing 2 (some .boolean) 1 [.ref l0, .int l1] (sh, d) (some (.int r)) (sh, d) := by
  have hf0 := hf
  unfold f_X1_hasCrossing at hf
  split at hf
  · rename_i hO
    refine ⟨hO, fun l G => mt_of (Or.inl (by decide)) (Nat.le_of_ble_eq_true rfl) Le.rf (fun E hE => ?_)⟩
    show Z E yX1_hasCrossing cX1_hasCrossing 2 (some .boolean) 1 (sh, d) 0 [(0, .ref l0), (1, .int l1)] []
    refine z_iload_n 1 dX1_hasCrossing_0 rfl rfl ?_
    refine z_if_lt 16 hf dX1_hasCrossing_1 (by decide) (fun hf => ?_) (fun hf => ?_)
    · refine z_lv [] [] rfl ?_
      exact zb_X1_hasCrossing_16 hE hf
    · refine z_iload_n 1 dX1_hasCrossing_4 rfl rfl ?_
      refine z_aload_n 0 dX1_hasCrossing_5 rfl rfl ?_
      refine z_gI (ci := 1) (k := 0) (C := RX1) (T := TX1) (N := 8) rfl inlX1 (by decide) mw_3_10 (fun _ _ _ _ h9 => h9) hf (by decide) rfl dX1_hasCrossing_6  (fun v1 hf => ?_)
      refine z_icmp_ge 16 hf dX1_hasCrossing_9 (by decide) (fun hf => ?_) (fun hf => ?_)
      · refine z_lv [] [] rfl ?_
        exact zb_X1_hasCrossing_16 hE hf
      · refine z_iconst 1 1 dX1_hasCrossing_12 (by decide) ?_
        refine z_goto 17 dX1_hasCrossing_13 (by decide) ?_
        refine z_lv [] [] rfl ?_
        exact zb_X1_hasCrossing_17 hE hf
  · cases hf
set_option maxRecDepth 20000 in
theorem le_X1_addGauge_50 {N : Nat} {r : Int32 × AS}  {l3 : Int32} {s : AS} (hf : f_X1_addGauge_50 N l3 s = some r) : Le s r.2 := by
  unfold f_X1_addGauge_50 at hf
  cases hf
  exact Le.rf
set_option maxRecDepth 20000 in
theorem zb_X1_addGauge_50 {N : Nat} {r : Int32 × AS} {E : EV} (hE : TG E (some (.int r.1)) r.2)  {l3 : Int32} {s : AS} (hf : f_X1_addGauge_50 N l3 s = some r) : Z E yX1_addGauge cX1_addGauge 4 (some .int) 4 s 50 [(3, .int l3)] [] := by
  unfold f_X1_addGauge_50 at hf
  refine z_iload_n 0 dX1_addGauge_50 rfl rfl ?_
  cases hf
  exact z_ireturn hE rfl dX1_addGauge_51
set_option maxRecDepth 20000 in
theorem le_X1_addGauge_33 {N : Nat} {r : Int32 × AS}  {l0 : Nat} {l3 : Int32} {t0 : Nat} {t1 : Int32} {t2 : Int32} {t3 : Int32} {s : AS} (hf : f_X1_addGauge_33 N l0 l3 t0 t1 t2 t3 s = some r) : Le s r.2 := by
  unfold f_X1_addGauge_33 at hf
  obtain ⟨v6, -, hf⟩ := ob hf
  obtain ⟨v7, -, hf⟩ := ob hf
  obtain ⟨v8, -, hf⟩ := ob hf
  obtain ⟨v9, ev9, hf⟩ := ob hf
  refine Le.of (t := (s.1, v8)) rfl ((lm_X1_widenCells ev9).tr ?_)
  exact Le.via (le_X1_addGauge_50 hf) rfl
set_option maxRecDepth 20000 in
theorem zb_X1_addGauge_33 {N : Nat} {r : Int32 × AS} {E : EV} (hE : TG E (some (.int r.1)) r.2)  {l0 : Nat} {l3 : Int32} {t0 : Nat} {t1 : Int32} {t2 : Int32} {t3 : Int32} {s : AS} (hf : f_X1_addGauge_33 N l0 l3 t0 t1 t2 t3 s = some r) : Z E yX1_addGauge cX1_addGauge 4 (some .int) 4 s 33 [(0, .ref l0), (3, .int l3)] [.int t3, .int t2, .int t1, .ref t0] := by
  unfold f_X1_addGauge_33 at hf
  obtain ⟨v6, ev6, hf⟩ := ob hf
  refine z_cVv (ci := 8) (T := TX8) (N := 2) (As := [.int t1, .int t2, .int t3]) (rest := []) (zm_X8_put ev6).2 (zm_X8_put ev6).1 (by decide) rfl (Or.inl rfl) mw_20_3 mw_12_23 mw_13_0 mw_3_13 mw_13_1 yk_X8_put (by decide) (by decide) rfl (Nat.le_of_ble_eq_true rfl) rfl dX1_addGauge_33 ?_
  refine z_aload_n 0 dX1_addGauge_36 rfl rfl ?_
  refine z_gP (ci := 1) (k := 2) (C := RX1) (T := TX1) (N := 8) rfl inlX1 (by decide) mw_3_15 (fun _ _ _ _ h9 => h9) hf (by decide) rfl dX1_addGauge_37  (fun v7 hf => ?_)
  refine z_iload_n 1 dX1_addGauge_40 rfl rfl ?_
  refine z_iconst 2 2 dX1_addGauge_41 (by decide) ?_
  refine z_iconst (-1) (-1) dX1_addGauge_42 (by decide) ?_
  obtain ⟨v8, ev8, hf⟩ := ob hf
  refine z_cVv (ci := 8) (T := TX8) (N := 2) (As := [.int l3, .int (2 : Int32), .int (-1 : Int32)]) (rest := []) (zm_X8_put ev8).2 (zm_X8_put ev8).1 (by decide) rfl (Or.inl rfl) mw_20_3 mw_12_23 mw_13_0 mw_3_13 mw_13_1 yk_X8_put (by decide) (by decide) rfl (Nat.le_of_ble_eq_true rfl) rfl dX1_addGauge_43 ?_
  refine z_aload_n 0 dX1_addGauge_46 rfl rfl ?_
  obtain ⟨v9, ev9, hf⟩ := ob hf
  refine z_cVv (ci := 1) (T := TX1) (N := 8) (As := []) (rest := []) (zm_X1_widenCells ev9).2 (zm_X1_widenCells ev9).1 (by decide) rfl (Or.inr (tg_le hE (le_X1_addGauge_50 hf))) mw_9_23 mw_10_0 mw_10_1 mw_1_18 mw_10_2 yk_X1_widenCells (by decide) (by decide) rfl (Nat.le_of_ble_eq_true rfl) rfl dX1_addGauge_47 ?_
  refine z_lv [(3, .int l3)] [1] rfl ?_
  exact zb_X1_addGauge_50 hE hf
set_option maxRecDepth 20000 in
theorem le_X1_addGauge_7 {N : Nat} {r : Int32 × AS}  {l0 : Nat} {l1 : Int32} {l2 : Int32} {t0 : Int32} {s : AS} (hf : f_X1_addGauge_7 N l0 l1 l2 t0 s = some r) : Le s r.2 := by
  unfold f_X1_addGauge_7 at hf
  obtain ⟨v3, -, hf⟩ := ob hf
  obtain ⟨v4, -, hf⟩ := ob hf
  obtain ⟨v5, -, hf⟩ := ob hf
  split at hf
  · exact Le.via (le_X1_addGauge_33 hf) rfl
  · exact Le.via (le_X1_addGauge_33 hf) rfl
set_option maxRecDepth 20000 in
theorem zb_X1_addGauge_7 {N : Nat} {r : Int32 × AS} {E : EV} (hE : TG E (some (.int r.1)) r.2)  {l0 : Nat} {l1 : Int32} {l2 : Int32} {t0 : Int32} {s : AS} (hf : f_X1_addGauge_7 N l0 l1 l2 t0 s = some r) : Z E yX1_addGauge cX1_addGauge 4 (some .int) 4 s 7 [(0, .ref l0), (1, .int l1), (2, .int l2)] [.int t0] := by
  unfold f_X1_addGauge_7 at hf
  refine z_istore_n [(3, .int t0), (0, .ref l0), (1, .int l1), (2, .int l2)] dX1_addGauge_7 rfl (by decide) rfl ?_
  refine z_aload_n 1 dX1_addGauge_8 rfl rfl ?_
  refine z_gP (ci := 1) (k := 2) (C := RX1) (T := TX1) (N := 8) rfl inlX1 (by decide) mw_3_15 (fun _ _ _ _ h9 => h9) hf (by decide) rfl dX1_addGauge_9  (fun v3 hf => ?_)
  refine z_iload_n 0 dX1_addGauge_12 rfl rfl ?_
  refine z_iconst 0 0 dX1_addGauge_13 (by decide) ?_
  refine z_iload_n 2 dX1_addGauge_14 rfl rfl ?_
  obtain ⟨v4, ev4, hf⟩ := ob hf
  refine z_cVv (ci := 8) (T := TX8) (N := 2) (As := [.int t0, .int (0 : Int32), .int l1]) (rest := []) (zm_X8_put ev4).2 (zm_X8_put ev4).1 (by decide) rfl (Or.inl rfl) mw_20_3 mw_12_23 mw_13_0 mw_3_13 mw_13_1 yk_X8_put (by decide) (by decide) rfl (Nat.le_of_ble_eq_true rfl) rfl dX1_addGauge_15 ?_
  refine z_aload_n 1 dX1_addGauge_18 rfl rfl ?_
  refine z_gP (ci := 1) (k := 2) (C := RX1) (T := TX1) (N := 8) rfl inlX1 (by decide) mw_3_15 (fun _ _ _ _ h9 => h9) hf (by decide) rfl dX1_addGauge_19  (fun v5 hf => ?_)
  refine z_iload_n 0 dX1_addGauge_22 rfl rfl ?_
  refine z_iconst 1 1 dX1_addGauge_23 (by decide) ?_
  refine z_iload_n 3 dX1_addGauge_24 rfl rfl ?_
  refine z_if_eq 32 hf dX1_addGauge_25 (by decide) (fun hf => ?_) (fun hf => ?_)
  · refine z_iconst 0 0 dX1_addGauge_32 (by decide) ?_
    refine z_lv [(0, .ref l0), (3, .int t0)] [1, 0] rfl ?_
    exact zb_X1_addGauge_33 hE hf
  · refine z_iconst 1 1 dX1_addGauge_28 (by decide) ?_
    refine z_goto 33 dX1_addGauge_29 (by decide) ?_
    refine z_lv [(0, .ref l0), (3, .int t0)] [1, 0] rfl ?_
    exact zb_X1_addGauge_33 hE hf
set_option maxRecDepth 20000 in
theorem lm_X1_addGauge {N : Nat} {s : AS} {l0 : Nat} {l1 : Int32} {l2 : Int32} {r : Int32 × AS} (hf : f_X1_addGauge N l0 l1 l2 s = some r) : Le s r.2 := by
  unfold f_X1_addGauge at hf
  split at hf
  · skip
    obtain ⟨v1, -, hf⟩ := ob hf
    obtain ⟨v2, ev2, hf⟩ := ob hf
    refine Le.of (t := (s.1, s.2)) rfl ((lm_X8_add ev2).tr ?_)
    exact Le.via (le_X1_addGauge_7 hf) rfl
  · cases hf
set_option maxRecDepth 20000 in
theorem zm_X1_addGauge {N : Nat} {s : AS} {l0 : Nat} {l1 : Int32} {l2 : Int32} {r : Int32 × AS} (hf : f_X1_addGauge N l0 l1 l2 s = some r) : isO s.1 l0 1 ∧ ∀ (l : Launch) (G : GG), Mt l G yX1_addGauge cX1_addGauge 4 (some .int) 4 [.ref l0, .int l1, .int l2] s (some (.int r.1)) r.2 := by
  have hf0 := hf
  unfold f_X1_addGauge at hf
  split at hf
  · rename_i hO
    refine ⟨hO, fun l G => mt_of (Or.inl (by decide)) (Nat.le_of_ble_eq_true rfl) (lm_X1_addGauge hf0) (fun E hE => ?_)⟩
    show Z E yX1_addGauge cX1_addGauge 4 (some .int) 4 s 0 [(0, .ref l0), (1, .int l1), (2, .int l2)] []
    refine z_aload_n 0 dX1_addGauge_0 rfl rfl ?_
    refine z_gP (ci := 1) (k := 2) (C := RX1) (T := TX1) (N := 8) rfl inlX1 (by decide) mw_3_15 (fun _ _ _ _ h9 => h9) hf (by decide) rfl dX1_addGauge_1  (fun v1 hf => ?_)
    obtain ⟨v2, ev2, hf⟩ := ob hf
    refine z_cVi (ci := 8) (T := TX8) (N := 2) (As := []) (rest := []) (zm_X8_add ev2).2 (zm_X8_add ev2).1 (by decide) rfl (Or.inr (tg_le hE (le_X1_addGauge_7 hf))) mw_20_2 mw_12_19 mw_12_20 mw_3_13 mw_12_21 yk_X8_add (by decide) (by decide) rfl (Nat.le_of_ble_eq_true rfl) rfl dX1_addGauge_4 ?_
    exact zb_X1_addGauge_7 hE hf
  · cases hf
set_option maxRecDepth 20000 in
theorem le_X11_gauge_54 {N : Nat} {r : Int32 × AS}  {t0 : Nat} {t1 : Int32} {s : AS} (hf : f_X11_gauge_54 N t0 t1 s = some r) : Le s r.2 := by
  unfold f_X11_gauge_54 at hf
  obtain ⟨v11, -, hf⟩ := ob hf
  cases hf
  exact Le.rf
set_option maxRecDepth 20000 in
theorem zb_X11_gauge_54 {N : Nat} {r : Int32 × AS} {E : EV} (hE : TG E (some (.int r.1)) r.2)  {t0 : Nat} {t1 : Int32} {s : AS} (hf : f_X11_gauge_54 N t0 t1 s = some r) : Z E yX11_gauge cX11_gauge 3 (some .int) 6 s 54 [] [.int t1, .ref t0] := by
  unfold f_X11_gauge_54 at hf
  obtain ⟨v11, ev11, hf⟩ := ob hf
  refine z_cVi (ci := 11) (T := TX11) (N := 14) (As := [.int t1]) (rest := []) (zm_X11_answer ev11).2 (zm_X11_answer ev11).1 (by decide) rfl (Or.inl rfl) mw_11_2 mw_11_3 mw_11_4 mw_1_2 mw_11_5 yk_X11_answer (by decide) (by decide) rfl (Nat.le_of_ble_eq_true rfl) rfl dX11_gauge_54 ?_
  cases hf
  exact z_ireturn hE rfl dX11_gauge_57
set_option maxRecDepth 20000 in
theorem le_X11_gauge_44 {N : Nat} {r : Int32 × AS}  {l0 : Nat} {l1 : Int32} {l2 : Int32} {s : AS} (hf : f_X11_gauge_44 N l0 l1 l2 s = some r) : Le s r.2 := by
  unfold f_X11_gauge_44 at hf
  obtain ⟨v9, -, hf⟩ := ob hf
  obtain ⟨v10, ev10, hf⟩ := ob hf
  refine Le.of (t := (s.1, s.2)) rfl ((lm_X1_addGauge ev10).tr ?_)
  exact Le.via (le_X11_gauge_54 hf) rfl
set_option maxRecDepth 20000 in
theorem zb_X11_gauge_44 {N : Nat} {r : Int32 × AS} {E : EV} (hE : TG E (some (.int r.1)) r.2)  {l0 : Nat} {l1 : Int32} {l2 : Int32} {s : AS} (hf : f_X11_gauge_44 N l0 l1 l2 s = some r) : Z E yX11_gauge cX11_gauge 3 (some .int) 6 s 44 [(0, .ref l0), (1, .int l1), (2, .int l2)] [] := by
  unfold f_X11_gauge_44 at hf
  refine z_aload_n 0 dX11_gauge_44 rfl rfl ?_
  refine z_aload_n 0 dX11_gauge_45 rfl rfl ?_
  refine z_gP (ci := 11) (k := 1) (C := RX11) (T := TX11) (N := 14) rfl inlX11 (by decide) mw_1_19 (fun _ _ _ _ h9 => h9) hf (by decide) rfl dX11_gauge_46  (fun v9 hf => ?_)
  refine z_iload_n 1 dX11_gauge_49 rfl rfl ?_
  refine z_iload_n 2 dX11_gauge_50 rfl rfl ?_
  obtain ⟨v10, ev10, hf⟩ := ob hf
  refine z_cVi (ci := 1) (T := TX1) (N := 8) (As := [.int l1, .int l2]) (rest := [.ref l0]) (zm_X1_addGauge ev10).2 (zm_X1_addGauge ev10).1 (by decide) rfl (Or.inr (tg_le hE (le_X11_gauge_54 hf))) mw_19_22 mw_19_23 mw_20_0 mw_1_18 mw_20_1 yk_X1_addGauge (by decide) (by decide) rfl (Nat.le_of_ble_eq_true rfl) rfl dX11_gauge_51 ?_
  refine z_lv [] [] rfl ?_
  exact zb_X11_gauge_54 hE hf
set_option maxRecDepth 20000 in
theorem lm_X11_gauge {N : Nat} {s : AS} {l0 : Nat} {l1 : Int32} {l2 : Int32} {r : Int32 × AS} (hf : f_X11_gauge N l0 l1 l2 s = some r) : Le s r.2 := by
  unfold f_X11_gauge at hf
  split at hf
  · skip
    obtain ⟨v1, -, hf⟩ := ob hf
    obtain ⟨v2, -, hf⟩ := ob hf
    split at hf
    · obtain ⟨v3, -, hf⟩ := ob hf
      obtain ⟨v4, -, hf⟩ := ob hf
      obtain ⟨v5, -, hf⟩ := ob hf
      split at hf
      · obtain ⟨v6, ev6, hf⟩ := ob hf
        refine Le.of (t := (s.1, s.2)) rfl ((lm_X11_change ev6).tr ?_)
        exact Le.via (le_X11_gauge_44 hf) rfl
      · obtain ⟨v7, -, hf⟩ := ob hf
        cases hf
        exact Le.rf
    · obtain ⟨v8, -, hf⟩ := ob hf
      cases hf
      exact Le.rf
  · cases hf
set_option maxRecDepth 20000 in
theorem zm_X11_gauge {N : Nat} {s : AS} {l0 : Nat} {l1 : Int32} {l2 : Int32} {r : Int32 × AS} (hf : f_X11_gauge N l0 l1 l2 s = some r) : isO s.1 l0 11 ∧ ∀ (l : Launch) (G : GG), Mt l G yX11_gauge cX11_gauge 3 (some .int) 6 [.ref l0, .int l1, .int l2] s (some (.int r.1)) r.2 := by
  have hf0 := hf
  unfold f_X11_gauge at hf
  split at hf
  · rename_i hO
    refine ⟨hO, fun l G => mt_of (Or.inl (by decide)) (Nat.le_of_ble_eq_true rfl) (lm_X11_gauge hf0) (fun E hE => ?_)⟩
    show Z E yX11_gauge cX11_gauge 3 (some .int) 6 s 0 [(0, .ref l0), (1, .int l1), (2, .int l2)] []
    refine z_aload_n 0 dX11_gauge_0 rfl rfl ?_
    refine z_gP (ci := 11) (k := 1) (C := RX11) (T := TX11) (N := 14) rfl inlX11 (by decide) mw_1_19 (fun _ _ _ _ h9 => h9) hf (by decide) rfl dX11_gauge_1  (fun v1 hf => ?_)
    refine z_iload_n 1 dX11_gauge_4 rfl rfl ?_
    obtain ⟨v2, ev2, hf⟩ := ob hf
    refine z_cVi (ci := 1) (T := TX1) (N := 8) (As := [.int l1]) (rest := []) (zm_X1_hasCrossing ev2).2 (zm_X1_hasCrossing ev2).1 (by decide) rfl (Or.inl rfl) mw_12_14 mw_12_15 mw_12_16 mw_1_18 mw_12_17 yk_X1_hasCrossing (by decide) (by decide) rfl (Nat.le_of_ble_eq_true rfl) rfl dX11_gauge_5 ?_
    refine z_if_ne 18 hf dX11_gauge_8 (by decide) (fun hf => ?_) (fun hf => ?_)
    · refine z_aload_n 0 dX11_gauge_18 rfl rfl ?_
      refine z_gP (ci := 11) (k := 1) (C := RX11) (T := TX11) (N := 14) rfl inlX11 (by decide) mw_1_19 (fun _ _ _ _ h9 => h9) hf (by decide) rfl dX11_gauge_19  (fun v3 hf => ?_)
      refine z_gP (ci := 1) (k := 2) (C := RX1) (T := TX1) (N := 8) rfl inlX1 (by decide) mw_19_21 (fun _ _ _ _ h9 => h9) hf (by decide) rfl dX11_gauge_22  (fun v4 hf => ?_)
      refine z_gI (ci := 8) (k := 1) (C := RX8) (T := TX8) (N := 2) rfl inlX8 (by decide) mw_12_13 (fun _ _ _ _ h9 => h9) hf (by decide) rfl dX11_gauge_25  (fun v5 hf => ?_)
      refine z_bipush 20 20 dX11_gauge_28 (by decide) ?_
      refine z_icmp_lt 40 hf dX11_gauge_30 (by decide) (fun hf => ?_) (fun hf => ?_)
      · refine z_aload_n 0 dX11_gauge_40 rfl rfl ?_
        obtain ⟨v6, ev6, hf⟩ := ob hf
        refine z_cVv (ci := 11) (T := TX11) (N := 14) (As := []) (rest := []) (zm_X11_change ev6).2 (zm_X11_change ev6).1 (by decide) rfl (Or.inr (tg_le hE (le_X11_gauge_44 hf))) mw_8_7 mw_8_8 mw_8_9 mw_1_2 mw_8_10 yk_X11_change (by decide) (by decide) rfl (Nat.le_of_ble_eq_true rfl) rfl dX11_gauge_41 ?_
        exact zb_X11_gauge_44 hE hf
      · refine z_aload_n 0 dX11_gauge_33 rfl rfl ?_
        refine z_bipush (-3) (-3) dX11_gauge_34 (by decide) ?_
        obtain ⟨v7, ev7, hf⟩ := ob hf
        refine z_cVi (ci := 11) (T := TX11) (N := 14) (As := [.int (-3 : Int32)]) (rest := []) (zm_X11_refuse ev7).2 (zm_X11_refuse ev7).1 (by decide) rfl (Or.inl rfl) mw_7_22 mw_7_23 mw_8_0 mw_1_2 mw_8_1 yk_X11_refuse (by decide) (by decide) rfl (Nat.le_of_ble_eq_true rfl) rfl dX11_gauge_36 ?_
        cases hf
        exact z_ireturn hE rfl dX11_gauge_39
    · refine z_aload_n 0 dX11_gauge_11 rfl rfl ?_
      refine z_bipush (-2) (-2) dX11_gauge_12 (by decide) ?_
      obtain ⟨v8, ev8, hf⟩ := ob hf
      refine z_cVi (ci := 11) (T := TX11) (N := 14) (As := [.int (-2 : Int32)]) (rest := []) (zm_X11_refuse ev8).2 (zm_X11_refuse ev8).1 (by decide) rfl (Or.inl rfl) mw_7_22 mw_7_23 mw_8_0 mw_1_2 mw_8_1 yk_X11_refuse (by decide) (by decide) rfl (Nat.le_of_ble_eq_true rfl) rfl dX11_gauge_14 ?_
      cases hf
      exact z_ireturn hE rfl dX11_gauge_17
  · cases hf
set_option maxRecDepth 20000 in
theorem zb_X1_hasDriveLeft_26 {N : Nat} {sh : Sh} {d : Dt} {r : Int32} {E : EV} (hE : TG E (some (.int r)) (sh, d))  {t0 : Int32} (hf : f_X1_hasDriveLeft_26 N sh t0 d = some r) : Z E yX1_hasDriveLeft cX1_hasDriveLeft 2 (some .boolean) 2 (sh, d) 26 [] [.int t0] := by
  unfold f_X1_hasDriveLeft_26 at hf
  obtain ⟨v5, ev5, hg⟩ := ob hf
  obtain ⟨rfl, hbv5⟩ := o_bool_spec ev5
  cases hg
  exact z_zreturn hE rfl hbv5 dX1_hasDriveLeft_26
set_option maxRecDepth 20000 in
theorem zm_X1_hasDriveLeft {N : Nat} {sh : Sh} {d : Dt} {l0 : Nat} {l1 : Int32} {r : Int32} (hf : f_X1_hasDriveLeft N sh l0 l1 d = some r) : isO sh l0 1 ∧ ∀ (l : Launch) (G : GG), Mt l G yX1_hasDriveLeft cX1_hasDriveLeft 2 (some .boolean) 2 [.ref l0, .int l1] (sh, d) (some (.int r)) (sh, d) := by
  have hf0 := hf
  unfold f_X1_hasDriveLeft at hf
  split at hf
  · rename_i hO
    refine ⟨hO, fun l G => mt_of (Or.inl (by decide)) (Nat.le_of_ble_eq_true rfl) Le.rf (fun E hE => ?_)⟩
    show Z E yX1_hasDriveLeft cX1_hasDriveLeft 2 (some .boolean) 2 (sh, d) 0 [(0, .ref l0), (1, .int l1)] []
    refine z_aload_n 0 dX1_hasDriveLeft_0 rfl rfl ?_
    refine z_gP (ci := 1) (k := 3) (C := RX1) (T := TX1) (N := 8) rfl inlX1 (by decide) mw_3_16 (fun _ _ _ _ h9 => h9) hf (by decide) rfl dX1_hasDriveLeft_1  (fun v1 hf => ?_)
    refine z_iload_n 1 dX1_hasDriveLeft_4 rfl rfl ?_
    refine z_iconst 2 2 dX1_hasDriveLeft_5 (by decide) ?_
    obtain ⟨v2, ev2, hf⟩ := ob hf
    refine z_cVi (ci := 8) (T := TX8) (N := 2) (As := [.int l1, .int (2 : Int32)]) (rest := []) (zm_X8_get ev2).2 (zm_X8_get ev2).1 (by decide) rfl (Or.inl rfl) mw_10_10 mw_10_11 mw_10_12 mw_3_13 mw_10_13 yk_X8_get (by decide) (by decide) rfl (Nat.le_of_ble_eq_true rfl) rfl dX1_hasDriveLeft_6 ?_
    refine z_aload_n 0 dX1_hasDriveLeft_9 rfl rfl ?_
    refine z_gP (ci := 1) (k := 3) (C := RX1) (T := TX1) (N := 8) rfl inlX1 (by decide) mw_3_16 (fun _ _ _ _ h9 => h9) hf (by decide) rfl dX1_hasDriveLeft_10  (fun v3 hf => ?_)
    refine z_iload_n 1 dX1_hasDriveLeft_13 rfl rfl ?_
    refine z_iconst 1 1 dX1_hasDriveLeft_14 (by decide) ?_
    obtain ⟨v4, ev4, hf⟩ := ob hf
    refine z_cVi (ci := 8) (T := TX8) (N := 2) (As := [.int l1, .int (1 : Int32)]) (rest := [.int v2]) (zm_X8_get ev4).2 (zm_X8_get ev4).1 (by decide) rfl (Or.inl rfl) mw_10_10 mw_10_11 mw_10_12 mw_3_13 mw_10_13 yk_X8_get (by decide) (by decide) rfl (Nat.le_of_ble_eq_true rfl) rfl dX1_hasDriveLeft_15 ?_
    refine z_icmp_ge 25 hf dX1_hasDriveLeft_18 (by decide) (fun hf => ?_) (fun hf => ?_)
    · refine z_iconst 0 0 dX1_hasDriveLeft_25 (by decide) ?_
      refine z_lv [] [] rfl ?_
      exact zb_X1_hasDriveLeft_26 hE hf
    · refine z_iconst 1 1 dX1_hasDriveLeft_21 (by decide) ?_
      refine z_goto 26 dX1_hasDriveLeft_22 (by decide) ?_
      refine z_lv [] [] rfl ?_
      exact zb_X1_hasDriveLeft_26 hE hf
  · cases hf
set_option maxRecDepth 20000 in
theorem zb_X1_isNextShut_30 {N : Nat} {sh : Sh} {d : Dt} {r : Int32} {E : EV} (hE : TG E (some (.int r)) (sh, d))  {t0 : Int32} (hf : f_X1_isNextShut_30 N sh t0 d = some r) : Z E yX1_isNextShut cX1_isNextShut 2 (some .boolean) 3 (sh, d) 30 [] [.int t0] := by
  unfold f_X1_isNextShut_30 at hf
  obtain ⟨v6, ev6, hg⟩ := ob hf
  obtain ⟨rfl, hbv6⟩ := o_bool_spec ev6
  cases hg
  exact z_zreturn hE rfl hbv6 dX1_isNextShut_30
set_option maxRecDepth 20000 in
theorem zm_X1_isNextShut {N : Nat} {sh : Sh} {d : Dt} {l0 : Nat} {l1 : Int32} {r : Int32} (hf : f_X1_isNextShut N sh l0 l1 d = some r) : isO sh l0 1 ∧ ∀ (l : Launch) (G : GG), Mt l G yX1_isNextShut cX1_isNextShut 2 (some .boolean) 3 [.ref l0, .int l1] (sh, d) (some (.int r)) (sh, d) := by
  have hf0 := hf
  unfold f_X1_isNextShut at hf
  split at hf
  · rename_i hO
    refine ⟨hO, fun l G => mt_of (Or.inl (by decide)) (Nat.le_of_ble_eq_true rfl) Le.rf (fun E hE => ?_)⟩
    show Z E yX1_isNextShut cX1_isNextShut 2 (some .boolean) 3 (sh, d) 0 [(0, .ref l0), (1, .int l1)] []
    refine z_aload_n 0 dX1_isNextShut_0 rfl rfl ?_
    refine z_gP (ci := 1) (k := 1) (C := RX1) (T := TX1) (N := 8) rfl inlX1 (by decide) mw_3_14 (fun _ _ _ _ h9 => h9) hf (by decide) rfl dX1_isNextShut_1  (fun v1 hf => ?_)
    refine z_aload_n 0 dX1_isNextShut_4 rfl rfl ?_
    refine z_gP (ci := 1) (k := 4) (C := RX1) (T := TX1) (N := 8) rfl inlX1 (by decide) mw_3_17 (fun _ _ _ _ h9 => h9) hf (by decide) rfl dX1_isNextShut_5  (fun v2 hf => ?_)
    refine z_aload_n 0 dX1_isNextShut_8 rfl rfl ?_
    refine z_iload_n 1 dX1_isNextShut_9 rfl rfl ?_
    obtain ⟨v3, ev3, hf⟩ := ob hf
    refine z_cVi (ci := 1) (T := TX1) (N := 8) (As := [.int l1]) (rest := [.ref v2, .ref v1]) (zm_X1_nextDrive ev3).2 (zm_X1_nextDrive ev3).1 (by decide) rfl (Or.inl rfl) mw_54_12 mw_54_13 mw_54_14 mw_1_18 mw_54_15 yk_X1_nextDrive (by decide) (by decide) rfl (Nat.le_of_ble_eq_true rfl) rfl dX1_isNextShut_10 ?_
    refine z_iconst 0 0 dX1_isNextShut_13 (by decide) ?_
    obtain ⟨v4, ev4, hf⟩ := ob hf
    refine z_cVi (ci := 8) (T := TX8) (N := 2) (As := [.int v3, .int (0 : Int32)]) (rest := [.ref v1]) (zm_X8_get ev4).2 (zm_X8_get ev4).1 (by decide) rfl (Or.inl rfl) mw_10_10 mw_10_11 mw_10_12 mw_3_13 mw_10_13 yk_X8_get (by decide) (by decide) rfl (Nat.le_of_ble_eq_true rfl) rfl dX1_isNextShut_14 ?_
    refine z_iconst 4 4 dX1_isNextShut_17 (by decide) ?_
    obtain ⟨v5, ev5, hf⟩ := ob hf
    refine z_cVi (ci := 8) (T := TX8) (N := 2) (As := [.int v4, .int (4 : Int32)]) (rest := []) (zm_X8_get ev5).2 (zm_X8_get ev5).1 (by decide) rfl (Or.inl rfl) mw_10_10 mw_10_11 mw_10_12 mw_3_13 mw_10_13 yk_X8_get (by decide) (by decide) rfl (Nat.le_of_ble_eq_true rfl) rfl dX1_isNextShut_18 ?_
    refine z_iconst 1 1 dX1_isNextShut_21 (by decide) ?_
    refine z_icmp_ne 29 hf dX1_isNextShut_22 (by decide) (fun hf => ?_) (fun hf => ?_)
    · refine z_iconst 0 0 dX1_isNextShut_29 (by decide) ?_
      refine z_lv [] [] rfl ?_
      exact zb_X1_isNextShut_30 hE hf
    · refine z_iconst 1 1 dX1_isNextShut_25 (by decide) ?_
      refine z_goto 30 dX1_isNextShut_26 (by decide) ?_
      refine z_lv [] [] rfl ?_
      exact zb_X1_isNextShut_30 hE hf
  · cases hf
set_option maxRecDepth 20000 in
theorem le_X11_go_25 {N : Nat} {r : Int32 × AS}  {l0 : Nat} {s : AS} (hf : f_X11_go_25 N l0 s = some r) : Le s r.2 := by
  unfold f_X11_go_25 at hf
  obtain ⟨v17, -, hf⟩ := ob hf
  cases hf
  exact Le.rf
set_option maxRecDepth 20000 in
theorem zb_X11_go_25 {N : Nat} {r : Int32 × AS} {E : EV} (hE : TG E (some (.int r.1)) r.2)  {l0 : Nat} {s : AS} (hf : f_X11_go_25 N l0 s = some r) : Z E yX11_go cX11_go 4 (some .int) 6 s 25 [(0, .ref l0)] [] := by
  unfold f_X11_go_25 at hf
  refine z_aload_n 0 dX11_go_25 rfl rfl ?_
  refine z_bipush (-2) (-2) dX11_go_26 (by decide) ?_
  obtain ⟨v17, ev17, hf⟩ := ob hf
  refine z_cVi (ci := 11) (T := TX11) (N := 14) (As := [.int (-2 : Int32)]) (rest := []) (zm_X11_refuse ev17).2 (zm_X11_refuse ev17).1 (by decide) rfl (Or.inl rfl) mw_7_22 mw_7_23 mw_8_0 mw_1_2 mw_8_1 yk_X11_refuse (by decide) (by decide) rfl (Nat.le_of_ble_eq_true rfl) rfl dX11_go_28 ?_
  cases hf
  exact z_ireturn hE rfl dX11_go_31
set_option maxRecDepth 20000 in
theorem le_X11_go_158 {N : Nat} {r : Int32 × AS}  {l0 : Nat} {l3 : Int32} {s : AS} (hf : f_X11_go_158 N l0 l3 s = some r) : Le s r.2 := by
  unfold f_X11_go_158 at hf
  obtain ⟨v26, -, hf⟩ := ob hf
  cases hf
  exact Le.rf
set_option maxRecDepth 20000 in
theorem zb_X11_go_158 {N : Nat} {r : Int32 × AS} {E : EV} (hE : TG E (some (.int r.1)) r.2)  {l0 : Nat} {l3 : Int32} {s : AS} (hf : f_X11_go_158 N l0 l3 s = some r) : Z E yX11_go cX11_go 4 (some .int) 6 s 158 [(0, .ref l0), (3, .int l3)] [] := by
  unfold f_X11_go_158 at hf
  refine z_aload_n 0 dX11_go_158 rfl rfl ?_
  refine z_iload_n 1 dX11_go_159 rfl rfl ?_
  obtain ⟨v26, ev26, hf⟩ := ob hf
  refine z_cVi (ci := 11) (T := TX11) (N := 14) (As := [.int l3]) (rest := []) (zm_X11_answer ev26).2 (zm_X11_answer ev26).1 (by decide) rfl (Or.inl rfl) mw_11_2 mw_11_3 mw_11_4 mw_1_2 mw_11_5 yk_X11_answer (by decide) (by decide) rfl (Nat.le_of_ble_eq_true rfl) rfl dX11_go_160 ?_
  cases hf
  exact z_ireturn hE rfl dX11_go_163
set_option maxRecDepth 20000 in
theorem le_X11_go_144 {N : Nat} {r : Int32 × AS}  {l0 : Nat} {l3 : Int32} {s : AS} (hf : f_X11_go_144 N l0 l3 s = some r) : Le s r.2 := by
  unfold f_X11_go_144 at hf
  exact Le.via (le_X11_go_158 hf) rfl
set_option maxRecDepth 20000 in
theorem zb_X11_go_144 {N : Nat} {r : Int32 × AS} {E : EV} (hE : TG E (some (.int r.1)) r.2)  {l0 : Nat} {l3 : Int32} {s : AS} (hf : f_X11_go_144 N l0 l3 s = some r) : Z E yX11_go cX11_go 4 (some .int) 6 s 144 [(0, .ref l0), (3, .int l3)] [] := by
  unfold f_X11_go_144 at hf
  refine z_goto 158 dX11_go_144 (by decide) ?_
  exact zb_X11_go_158 hE hf
set_option maxRecDepth 20000 in
theorem lg_X11_go_104 {N : Nat} {r : Int32 × AS} {k104 : Nat → Int32 → Int32 → Int32 → AS → Option (Int32 × AS)}  (hk104 : ∀ (l0 : Nat) (l1 : Int32) (l2 : Int32) (l3 : Int32) (s : AS), k104 l0 l1 l2 l3 s = some r → Le s r.2) {l0 : Nat} {l1 : Int32} {l2 : Int32} {l3 : Int32} {s : AS} (hf : g_X11_go_104 N k104 l0 l1 l2 l3 s = some r) : Le s r.2 := by
  unfold g_X11_go_104 at hf
  split at hf
  · exact Le.via (le_X11_go_158 hf) rfl
  · obtain ⟨v18, -, hf⟩ := ob hf
    obtain ⟨v19, -, hf⟩ := ob hf
    split at hf
    · exact Le.via (le_X11_go_158 hf) rfl
    · obtain ⟨v20, -, hf⟩ := ob hf
      obtain ⟨v21, -, hf⟩ := ob hf
      obtain ⟨d22, -, hf⟩ := ob hf
      obtain ⟨v23, -, hf⟩ := ob hf
      obtain ⟨v24, -, hf⟩ := ob hf
      split at hf
      · obtain ⟨v25, -, hf⟩ := ob hf
        exact Le.via (hk104 _ _ _ _ _ hf) rfl
      · exact Le.via (le_X11_go_144 hf) rfl
set_option maxRecDepth 20000 in
theorem le_X11_go_104 {N : Nat} {r : Int32 × AS}  : ∀ (n : Nat) (l0 : Nat) (l1 : Int32) (l2 : Int32) (l3 : Int32) (s : AS), f_X11_go_104 N n l0 l1 l2 l3 s = some r → Le s r.2 := by
  intro n
  induction n with
  | zero => intro l0 l1 l2 l3 s hf; cases hf
  | succ n ih => intro l0 l1 l2 l3 s hf; exact lg_X11_go_104 ih hf
set_option maxRecDepth 20000 in
theorem zg_X11_go_104 {N : Nat} {r : Int32 × AS} {k104 : Nat → Int32 → Int32 → Int32 → AS → Option (Int32 × AS)} {E : EV} (hE : TG E (some (.int r.1)) r.2)  (hk104 : ∀ (l0 : Nat) (l1 : Int32) (l2 : Int32) (l3 : Int32) (s : AS), k104 l0 l1 l2 l3 s = some r → Z E yX11_go cX11_go 4 (some .int) 6 s 104 [(0, .ref l0), (1, .int l1), (2, .int l2), (3, .int l3)] []) {l0 : Nat} {l1 : Int32} {l2 : Int32} {l3 : Int32} {s : AS} (hf : g_X11_go_104 N k104 l0 l1 l2 l3 s = some r) : Z E yX11_go cX11_go 4 (some .int) 6 s 104 [(0, .ref l0), (1, .int l1), (2, .int l2), (3, .int l3)] [] := by
  unfold g_X11_go_104 at hf
  refine z_iload_n 3 dX11_go_104 rfl rfl ?_
  refine z_iload_n 2 dX11_go_105 rfl rfl ?_
  refine z_icmp_ge 158 hf dX11_go_106 (by decide) (fun hf => ?_) (fun hf => ?_)
  · refine z_lv [(0, .ref l0), (3, .int l3)] [0, 3] rfl ?_
    exact zb_X11_go_158 hE hf
  · refine z_aload_n 0 dX11_go_109 rfl rfl ?_
    refine z_gP (ci := 11) (k := 1) (C := RX11) (T := TX11) (N := 14) rfl inlX11 (by decide) mw_1_19 (fun _ _ _ _ h9 => h9) hf (by decide) rfl dX11_go_110  (fun v18 hf => ?_)
    refine z_iload_n 1 dX11_go_113 rfl rfl ?_
    obtain ⟨v19, ev19, hf⟩ := ob hf
    refine z_cVi (ci := 1) (T := TX1) (N := 8) (As := [.int l1]) (rest := []) (zm_X1_hasDriveLeft ev19).2 (zm_X1_hasDriveLeft ev19).1 (by decide) rfl (Or.inl rfl) mw_54_4 mw_54_5 mw_54_6 mw_1_18 mw_54_7 yk_X1_hasDriveLeft (by decide) (by decide) rfl (Nat.le_of_ble_eq_true rfl) rfl dX11_go_114 ?_
    refine z_if_eq 158 hf dX11_go_117 (by decide) (fun hf => ?_) (fun hf => ?_)
    · refine z_lv [(0, .ref l0), (3, .int l3)] [0, 3] rfl ?_
      exact zb_X11_go_158 hE hf
    · refine z_aload_n 0 dX11_go_120 rfl rfl ?_
      refine z_gP (ci := 11) (k := 0) (C := RX11) (T := TX11) (N := 14) rfl inlX11 (by decide) mw_1_15 (fun _ _ _ _ h9 => h9) hf (by decide) rfl dX11_go_121  (fun v20 hf => ?_)
      refine z_dup dX11_go_124 rfl ?_
      refine z_gI (ci := 2) (k := 3) (C := RX2) (T := TX2) (N := 4) rfl inlX2 (by decide) mw_54_3 (fun _ _ _ _ h9 => h9) hf (by decide) rfl dX11_go_125  (fun v21 hf => ?_)
      refine z_iconst 1 1 dX11_go_128 (by decide) ?_
      refine z_iadd dX11_go_129 ?_
      refine z_pI (ci := 2) (k := 3) (C := RX2) (T := TX2) (N := 4) rfl inlX2 (by decide) mw_54_3 (fun _ _ _ _ h9 => h9) tyX2 tyX2_ok nmX2 rfl hf (Or.inl (by decide)) rfl rfl rfl dX11_go_130  (fun d22 hf => ?_)
      refine z_aload_n 0 dX11_go_133 rfl rfl ?_
      refine z_gP (ci := 11) (k := 1) (C := RX11) (T := TX11) (N := 14) rfl inlX11 (by decide) mw_1_19 (fun _ _ _ _ h9 => h9) hf (by decide) rfl dX11_go_134  (fun v23 hf => ?_)
      refine z_iload_n 1 dX11_go_137 rfl rfl ?_
      obtain ⟨v24, ev24, hf⟩ := ob hf
      refine z_cVi (ci := 1) (T := TX1) (N := 8) (As := [.int l1]) (rest := []) (zm_X1_isNextShut ev24).2 (zm_X1_isNextShut ev24).1 (by decide) rfl (Or.inl rfl) mw_54_8 mw_54_9 mw_54_10 mw_1_18 mw_54_11 yk_X1_isNextShut (by decide) (by decide) rfl (Nat.le_of_ble_eq_true rfl) rfl dX11_go_138 ?_
      refine z_if_eq 147 hf dX11_go_141 (by decide) (fun hf => ?_) (fun hf => ?_)
      · refine z_aload_n 0 dX11_go_147 rfl rfl ?_
        refine z_iload_n 1 dX11_go_148 rfl rfl ?_
        obtain ⟨v25, ev25, hf⟩ := ob hf
        refine z_cVv (ci := 11) (T := TX11) (N := 14) (As := [.int l1]) (rest := []) (zm_X11_driveNext ev25).2 (zm_X11_driveNext ev25).1 (by decide) rfl (Or.inl rfl) mw_54_16 mw_54_17 mw_54_18 mw_1_2 mw_54_19 yk_X11_driveNext (by decide) (by decide) rfl (Nat.le_of_ble_eq_true rfl) rfl dX11_go_149 ?_
        refine z_iinc [(3, .int (l3 + 1)), (0, .ref l0), (1, .int l1), (2, .int l2)] 3 (l3 + 1) dX11_go_152 rfl rfl (by decide) rfl ?_
        refine z_goto 104 dX11_go_155 (by decide) ?_
        refine z_lv [(0, .ref l0), (1, .int l1), (2, .int l2), (3, .int (l3 + 1))] [1, 2, 3, 0] rfl ?_
        exact hk104 _ _ _ _ _ hf
      · refine z_lv [(0, .ref l0), (3, .int l3)] [0, 3] rfl ?_
        exact zb_X11_go_144 hE hf
set_option maxRecDepth 20000 in
theorem zb_X11_go_104 {N : Nat} {r : Int32 × AS} {E : EV} (hE : TG E (some (.int r.1)) r.2)  : ∀ (n : Nat) (l0 : Nat) (l1 : Int32) (l2 : Int32) (l3 : Int32) (s : AS), f_X11_go_104 N n l0 l1 l2 l3 s = some r → Z E yX11_go cX11_go 4 (some .int) 6 s 104 [(0, .ref l0), (1, .int l1), (2, .int l2), (3, .int l3)] [] := by
  intro n
  induction n with
  | zero => intro l0 l1 l2 l3 s hf; cases hf
  | succ n ih => intro l0 l1 l2 l3 s hf; exact zg_X11_go_104 hE ih hf
set_option maxRecDepth 20000 in
theorem le_X11_go_102 {N : Nat} {r : Int32 × AS}  {l0 : Nat} {l1 : Int32} {l2 : Int32} {s : AS} (hf : f_X11_go_102 N l0 l1 l2 s = some r) : Le s r.2 := by
  unfold f_X11_go_102 at hf
  exact Le.via (le_X11_go_104 N _ _ _ _ _ hf) rfl
set_option maxRecDepth 20000 in
theorem zb_X11_go_102 {N : Nat} {r : Int32 × AS} {E : EV} (hE : TG E (some (.int r.1)) r.2)  {l0 : Nat} {l1 : Int32} {l2 : Int32} {s : AS} (hf : f_X11_go_102 N l0 l1 l2 s = some r) : Z E yX11_go cX11_go 4 (some .int) 6 s 102 [(0, .ref l0), (1, .int l1), (2, .int l2)] [] := by
  unfold f_X11_go_102 at hf
  refine z_iconst 0 0 dX11_go_102 (by decide) ?_
  refine z_istore_n [(3, .int (0 : Int32)), (0, .ref l0), (1, .int l1), (2, .int l2)] dX11_go_103 rfl (by decide) rfl ?_
  refine z_lv [(0, .ref l0), (1, .int l1), (2, .int l2), (3, .int (0 : Int32))] [1, 2, 3, 0] rfl ?_
  exact zb_X11_go_104 hE N _ _ _ _ _ hf
set_option maxRecDepth 20000 in
theorem lm_X11_go {N : Nat} {s : AS} {l0 : Nat} {l1 : Int32} {l2 : Int32} {r : Int32 × AS} (hf : f_X11_go N l0 l1 l2 s = some r) : Le s r.2 := by
  unfold f_X11_go at hf
  split at hf
  · skip
    obtain ⟨v1, -, hf⟩ := ob hf
    obtain ⟨v2, -, hf⟩ := ob hf
    obtain ⟨v3, -, hf⟩ := ob hf
    split at hf
    · exact Le.via (le_X11_go_25 hf) rfl
    · split at hf
      · exact Le.via (le_X11_go_25 hf) rfl
      · split at hf
        · obtain ⟨v4, -, hf⟩ := ob hf
          obtain ⟨v5, -, hf⟩ := ob hf
          split at hf
          · obtain ⟨v6, -, hf⟩ := ob hf
            obtain ⟨v7, -, hf⟩ := ob hf
            split at hf
            · obtain ⟨v8, -, hf⟩ := ob hf
              obtain ⟨v9, -, hf⟩ := ob hf
              split at hf
              · obtain ⟨v10, ev10, hf⟩ := ob hf
                refine Le.of (t := (s.1, s.2)) rfl ((lm_X11_change ev10).tr ?_)
                exact Le.via (le_X11_go_102 hf) rfl
              · obtain ⟨v11, -, hf⟩ := ob hf
                obtain ⟨v12, -, hf⟩ := ob hf
                obtain ⟨d13, -, hf⟩ := ob hf
                obtain ⟨v14, -, hf⟩ := ob hf
                cases hf
                exact Le.rf
            · obtain ⟨v15, -, hf⟩ := ob hf
              cases hf
              exact Le.rf
          · obtain ⟨v16, -, hf⟩ := ob hf
            cases hf
            exact Le.rf
        · exact Le.via (le_X11_go_25 hf) rfl
  · cases hf
set_option maxRecDepth 20000 in
theorem zm_X11_go {N : Nat} {s : AS} {l0 : Nat} {l1 : Int32} {l2 : Int32} {r : Int32 × AS} (hf : f_X11_go N l0 l1 l2 s = some r) : isO s.1 l0 11 ∧ ∀ (l : Launch) (G : GG), Mt l G yX11_go cX11_go 4 (some .int) 6 [.ref l0, .int l1, .int l2] s (some (.int r.1)) r.2 := by
  have hf0 := hf
  unfold f_X11_go at hf
  split at hf
  · rename_i hO
    refine ⟨hO, fun l G => mt_of (Or.inl (by decide)) (Nat.le_of_ble_eq_true rfl) (lm_X11_go hf0) (fun E hE => ?_)⟩
    show Z E yX11_go cX11_go 4 (some .int) 6 s 0 [(0, .ref l0), (1, .int l1), (2, .int l2)] []
    refine z_aload_n 0 dX11_go_0 rfl rfl ?_
    refine z_gP (ci := 11) (k := 1) (C := RX11) (T := TX11) (N := 14) rfl inlX11 (by decide) mw_1_19 (fun _ _ _ _ h9 => h9) hf (by decide) rfl dX11_go_1  (fun v1 hf => ?_)
    refine z_gP (ci := 1) (k := 3) (C := RX1) (T := TX1) (N := 8) rfl inlX1 (by decide) mw_29_16 (fun _ _ _ _ h9 => h9) hf (by decide) rfl dX11_go_4  (fun v2 hf => ?_)
    refine z_iload_n 1 dX11_go_7 rfl rfl ?_
    obtain ⟨v3, ev3, hf⟩ := ob hf
    refine z_cVi (ci := 8) (T := TX8) (N := 2) (As := [.int l1]) (rest := []) (zm_X8_has ev3).2 (zm_X8_has ev3).1 (by decide) rfl (Or.inl rfl) mw_13_22 mw_13_23 mw_14_0 mw_3_13 mw_14_1 yk_X8_has (by decide) (by decide) rfl (Nat.le_of_ble_eq_true rfl) rfl dX11_go_8 ?_
    refine z_if_eq 25 hf dX11_go_11 (by decide) (fun hf => ?_) (fun hf => ?_)
    · refine z_lv [(0, .ref l0)] [0] rfl ?_
      exact zb_X11_go_25 hE hf
    · refine z_iload_n 2 dX11_go_14 rfl rfl ?_
      refine z_iconst 1 1 dX11_go_15 (by decide) ?_
      refine z_icmp_lt 25 hf dX11_go_16 (by decide) (fun hf => ?_) (fun hf => ?_)
      · refine z_lv [(0, .ref l0)] [0] rfl ?_
        exact zb_X11_go_25 hE hf
      · refine z_iload_n 2 dX11_go_19 rfl rfl ?_
        refine z_bipush 50 50 dX11_go_20 (by decide) ?_
        refine z_icmp_le 32 hf dX11_go_22 (by decide) (fun hf => ?_) (fun hf => ?_)
        · refine z_aload_n 0 dX11_go_32 rfl rfl ?_
          refine z_gP (ci := 11) (k := 1) (C := RX11) (T := TX11) (N := 14) rfl inlX11 (by decide) mw_1_19 (fun _ _ _ _ h9 => h9) hf (by decide) rfl dX11_go_33  (fun v4 hf => ?_)
          refine z_iload_n 1 dX11_go_36 rfl rfl ?_
          obtain ⟨v5, ev5, hf⟩ := ob hf
          refine z_cVi (ci := 1) (T := TX1) (N := 8) (As := [.int l1]) (rest := []) (zm_X1_isOut ev5).2 (zm_X1_isOut ev5).1 (by decide) rfl (Or.inl rfl) mw_31_22 mw_31_23 mw_32_0 mw_1_18 mw_32_1 yk_X1_isOut (by decide) (by decide) rfl (Nat.le_of_ble_eq_true rfl) rfl dX11_go_37 ?_
          refine z_if_eq 50 hf dX11_go_40 (by decide) (fun hf => ?_) (fun hf => ?_)
          · refine z_aload_n 0 dX11_go_50 rfl rfl ?_
            refine z_gP (ci := 11) (k := 1) (C := RX11) (T := TX11) (N := 14) rfl inlX11 (by decide) mw_1_19 (fun _ _ _ _ h9 => h9) hf (by decide) rfl dX11_go_51  (fun v6 hf => ?_)
            refine z_iload_n 1 dX11_go_54 rfl rfl ?_
            obtain ⟨v7, ev7, hf⟩ := ob hf
            refine z_cVi (ci := 1) (T := TX1) (N := 8) (As := [.int l1]) (rest := []) (zm_X1_hasDriveLeft ev7).2 (zm_X1_hasDriveLeft ev7).1 (by decide) rfl (Or.inl rfl) mw_54_4 mw_54_5 mw_54_6 mw_1_18 mw_54_7 yk_X1_hasDriveLeft (by decide) (by decide) rfl (Nat.le_of_ble_eq_true rfl) rfl dX11_go_55 ?_
            refine z_if_ne 68 hf dX11_go_58 (by decide) (fun hf => ?_) (fun hf => ?_)
            · refine z_aload_n 0 dX11_go_68 rfl rfl ?_
              refine z_gP (ci := 11) (k := 1) (C := RX11) (T := TX11) (N := 14) rfl inlX11 (by decide) mw_1_19 (fun _ _ _ _ h9 => h9) hf (by decide) rfl dX11_go_69  (fun v8 hf => ?_)
              refine z_iload_n 1 dX11_go_72 rfl rfl ?_
              obtain ⟨v9, ev9, hf⟩ := ob hf
              refine z_cVi (ci := 1) (T := TX1) (N := 8) (As := [.int l1]) (rest := []) (zm_X1_isNextShut ev9).2 (zm_X1_isNextShut ev9).1 (by decide) rfl (Or.inl rfl) mw_54_8 mw_54_9 mw_54_10 mw_1_18 mw_54_11 yk_X1_isNextShut (by decide) (by decide) rfl (Nat.le_of_ble_eq_true rfl) rfl dX11_go_73 ?_
              refine z_if_eq 98 hf dX11_go_76 (by decide) (fun hf => ?_) (fun hf => ?_)
              · refine z_aload_n 0 dX11_go_98 rfl rfl ?_
                obtain ⟨v10, ev10, hf⟩ := ob hf
                refine z_cVv (ci := 11) (T := TX11) (N := 14) (As := []) (rest := []) (zm_X11_change ev10).2 (zm_X11_change ev10).1 (by decide) rfl (Or.inr (tg_le hE (le_X11_go_102 hf))) mw_8_7 mw_8_8 mw_8_9 mw_1_2 mw_8_10 yk_X11_change (by decide) (by decide) rfl (Nat.le_of_ble_eq_true rfl) rfl dX11_go_99 ?_
                exact zb_X11_go_102 hE hf
              · refine z_aload_n 0 dX11_go_79 rfl rfl ?_
                refine z_gP (ci := 11) (k := 0) (C := RX11) (T := TX11) (N := 14) rfl inlX11 (by decide) mw_1_15 (fun _ _ _ _ h9 => h9) hf (by decide) rfl dX11_go_80  (fun v11 hf => ?_)
                refine z_dup dX11_go_83 rfl ?_
                refine z_gI (ci := 2) (k := 3) (C := RX2) (T := TX2) (N := 4) rfl inlX2 (by decide) mw_54_3 (fun _ _ _ _ h9 => h9) hf (by decide) rfl dX11_go_84  (fun v12 hf => ?_)
                refine z_iconst 1 1 dX11_go_87 (by decide) ?_
                refine z_iadd dX11_go_88 ?_
                refine z_pI (ci := 2) (k := 3) (C := RX2) (T := TX2) (N := 4) rfl inlX2 (by decide) mw_54_3 (fun _ _ _ _ h9 => h9) tyX2 tyX2_ok nmX2 rfl hf (Or.inl (by decide)) rfl rfl rfl dX11_go_89  (fun d13 hf => ?_)
                refine z_aload_n 0 dX11_go_92 rfl rfl ?_
                refine z_iconst 0 0 dX11_go_93 (by decide) ?_
                obtain ⟨v14, ev14, hf⟩ := ob hf
                refine z_cVi (ci := 11) (T := TX11) (N := 14) (As := [.int (0 : Int32)]) (rest := []) (zm_X11_answer ev14).2 (zm_X11_answer ev14).1 (by decide) rfl (Or.inl rfl) mw_11_2 mw_11_3 mw_11_4 mw_1_2 mw_11_5 yk_X11_answer (by decide) (by decide) rfl (Nat.le_of_ble_eq_true rfl) rfl dX11_go_94 ?_
                cases hf
                exact z_ireturn hE rfl dX11_go_97
            · refine z_aload_n 0 dX11_go_61 rfl rfl ?_
              refine z_bipush (-8) (-8) dX11_go_62 (by decide) ?_
              obtain ⟨v15, ev15, hf⟩ := ob hf
              refine z_cVi (ci := 11) (T := TX11) (N := 14) (As := [.int (-8 : Int32)]) (rest := []) (zm_X11_refuse ev15).2 (zm_X11_refuse ev15).1 (by decide) rfl (Or.inl rfl) mw_7_22 mw_7_23 mw_8_0 mw_1_2 mw_8_1 yk_X11_refuse (by decide) (by decide) rfl (Nat.le_of_ble_eq_true rfl) rfl dX11_go_64 ?_
              cases hf
              exact z_ireturn hE rfl dX11_go_67
          · refine z_aload_n 0 dX11_go_43 rfl rfl ?_
            refine z_bipush (-4) (-4) dX11_go_44 (by decide) ?_
            obtain ⟨v16, ev16, hf⟩ := ob hf
            refine z_cVi (ci := 11) (T := TX11) (N := 14) (As := [.int (-4 : Int32)]) (rest := []) (zm_X11_refuse ev16).2 (zm_X11_refuse ev16).1 (by decide) rfl (Or.inl rfl) mw_7_22 mw_7_23 mw_8_0 mw_1_2 mw_8_1 yk_X11_refuse (by decide) (by decide) rfl (Nat.le_of_ble_eq_true rfl) rfl dX11_go_46 ?_
            cases hf
            exact z_ireturn hE rfl dX11_go_49
        · refine z_lv [(0, .ref l0)] [0] rfl ?_
          exact zb_X11_go_25 hE hf
  · cases hf
set_option maxRecDepth 20000 in
theorem le_X2_init_11 {N : Nat} {r : AS}  {l0 : Nat} {s : AS} (hf : f_X2_init_11 N l0 s = some r) : Le s r := by
  unfold f_X2_init_11 at hf
  obtain ⟨d3, -, hf⟩ := ob hf
  obtain ⟨d4, -, hf⟩ := ob hf
  obtain ⟨d5, -, hf⟩ := ob hf
  cases hf
  exact Le.rf
set_option maxRecDepth 20000 in
theorem zb_X2_init_11 {N : Nat} {r : AS} {E : EV} (hE : TG E none r)  {l0 : Nat} {s : AS} (hf : f_X2_init_11 N l0 s = some r) : Z E yX2_init cX2_init 1 none 1 s 11 [(0, .ref l0)] [] := by
  unfold f_X2_init_11 at hf
  refine z_aload_n 0 dX2_init_11 rfl rfl ?_
  refine z_iconst 0 0 dX2_init_12 (by decide) ?_
  refine z_pI (ci := 2) (k := 1) (C := RX2) (T := TX2) (N := 4) rfl inlX2 (by decide) mw_3_3 (fun _ _ _ _ h9 => h9) tyX2 tyX2_ok nmX2 rfl hf (Or.inl (by decide)) rfl rfl rfl dX2_init_13  (fun d3 hf => ?_)
  refine z_aload_n 0 dX2_init_16 rfl rfl ?_
  refine z_iconst 0 0 dX2_init_17 (by decide) ?_
  refine z_pI (ci := 2) (k := 2) (C := RX2) (T := TX2) (N := 4) rfl inlX2 (by decide) mw_3_4 (fun _ _ _ _ h9 => h9) tyX2 tyX2_ok nmX2 rfl hf (Or.inl (by decide)) rfl rfl rfl dX2_init_18  (fun d4 hf => ?_)
  refine z_aload_n 0 dX2_init_21 rfl rfl ?_
  refine z_iconst 0 0 dX2_init_22 (by decide) ?_
  refine z_pI (ci := 2) (k := 3) (C := RX2) (T := TX2) (N := 4) rfl inlX2 (by decide) mw_3_5 (fun _ _ _ _ h9 => h9) tyX2 tyX2_ok nmX2 rfl hf (Or.inl (by decide)) rfl rfl rfl dX2_init_23  (fun d5 hf => ?_)
  cases hf
  exact z_return hE rfl dX2_init_26
set_option maxRecDepth 20000 in
theorem le_X2_init_8 {N : Nat} {r : AS}  {l0 : Nat} {t0 : Nat} {t1 : Nat} {s : AS} (hf : f_X2_init_8 N l0 t0 t1 s = some r) : Le s r := by
  unfold f_X2_init_8 at hf
  obtain ⟨s2, es2, hf⟩ := ob hf
  refine Le.of (t := (s.1, s.2)) rfl ((le_pP es2).tr ?_)
  exact Le.via (le_X2_init_11 hf) rfl
set_option maxRecDepth 20000 in
theorem zb_X2_init_8 {N : Nat} {r : AS} {E : EV} (hE : TG E none r)  {l0 : Nat} {t0 : Nat} {t1 : Nat} {s : AS} (hf : f_X2_init_8 N l0 t0 t1 s = some r) : Z E yX2_init cX2_init 1 none 1 s 8 [(0, .ref l0)] [.ref t1, .ref t0] := by
  unfold f_X2_init_8 at hf
  refine z_pP (ci := 2) (k := 0) (C := RX2) (T := TX2) (N := 4) rfl inlX2 (by decide) mw_3_2 (fun _ _ _ _ h9 => h9) tyX2 tyX2_ok nmX2 rfl rfl rfl hf (Or.inl (by decide)) rfl rfl rfl dX2_init_8 (fun s2 es2 hf => ?_)
  exact zb_X2_init_11 hE hf
set_option maxRecDepth 20000 in
theorem lm_X2_init {N : Nat} {s : AS} {l0 : Nat} {r : AS} (hf : f_X2_init N l0 s = some r) : Le s r := by
  unfold f_X2_init at hf
  split at hf
  · skip
    obtain ⟨s1, es1, hf⟩ := ob hf
    refine Le.of (t := (s.1, s.2)) rfl ((le_nArr es1).tr ?_)
    exact Le.via (le_X2_init_8 hf) rfl
  · cases hf
set_option maxRecDepth 20000 in
theorem zm_X2_init {N : Nat} {s : AS} {l0 : Nat} {r : AS} (hf : f_X2_init N l0 s = some r) : isO s.1 l0 2 ∧ ∀ (l : Launch) (G : GG), Mt l G yX2_init cX2_init 1 none 1 [.ref l0] s none r := by
  have hf0 := hf
  unfold f_X2_init at hf
  split at hf
  · rename_i hO
    refine ⟨hO, fun l G => mt_of (Or.inl (by decide)) (Nat.le_of_ble_eq_true rfl) (lm_X2_init hf0) (fun E hE => ?_)⟩
    show Z E yX2_init cX2_init 1 none 1 s 0 [(0, .ref l0)] []
    refine z_aload_n 0 dX2_init_0 rfl rfl ?_
    refine z_objInit mw_3_1 mw_1_10 mw_1_11 (by decide) (Nat.le_of_ble_eq_true rfl) dX2_init_1 ?_
    refine z_aload_n 0 dX2_init_4 rfl rfl ?_
    refine z_iconst 5 5 dX2_init_5 (by decide) ?_
    refine z_na0 hf (fun _ hf => tg_le hE (le_X2_init_8 hf)) mw_2_13 dX2_init_6 (fun s1 hf => ?_)
    exact zb_X2_init_8 hE hf
  · cases hf
set_option maxRecDepth 20000 in
theorem le_X8_init_19 {N : Nat} {r : AS}   {s : AS} (hf : f_X8_init_19 N  s = some r) : Le s r := by
  unfold f_X8_init_19 at hf
  cases hf
  exact Le.rf
set_option maxRecDepth 20000 in
theorem zb_X8_init_19 {N : Nat} {r : AS} {E : EV} (hE : TG E none r)   {s : AS} (hf : f_X8_init_19 N  s = some r) : Z E yX8_init cX8_init 3 none 1 s 19 [] [] := by
  unfold f_X8_init_19 at hf
  cases hf
  exact z_return hE rfl dX8_init_19
set_option maxRecDepth 20000 in
theorem le_X8_init_16 {N : Nat} {r : AS}  {t0 : Nat} {t1 : Nat} {s : AS} (hf : f_X8_init_16 N t0 t1 s = some r) : Le s r := by
  unfold f_X8_init_16 at hf
  obtain ⟨s3, es3, hf⟩ := ob hf
  refine Le.of (t := (s.1, s.2)) rfl ((le_pP es3).tr ?_)
  exact Le.via (le_X8_init_19 hf) rfl
set_option maxRecDepth 20000 in
theorem zb_X8_init_16 {N : Nat} {r : AS} {E : EV} (hE : TG E none r)  {t0 : Nat} {t1 : Nat} {s : AS} (hf : f_X8_init_16 N t0 t1 s = some r) : Z E yX8_init cX8_init 3 none 1 s 16 [] [.ref t1, .ref t0] := by
  unfold f_X8_init_16 at hf
  refine z_pP (ci := 8) (k := 0) (C := RX8) (T := TX8) (N := 2) rfl inlX8 (by decide) mw_4_4 (fun _ _ _ _ h9 => h9) tyX8 tyX8_ok nmX8 rfl rfl rfl hf (Or.inl (by decide)) rfl rfl rfl dX8_init_16 (fun s3 es3 hf => ?_)
  exact zb_X8_init_19 hE hf
set_option maxRecDepth 20000 in
theorem lm_X8_init {N : Nat} {s : AS} {l0 : Nat} {l1 : Int32} {l2 : Int32} {r : AS} (hf : f_X8_init N l0 l1 l2 s = some r) : Le s r := by
  unfold f_X8_init at hf
  split at hf
  · skip
    obtain ⟨d1, -, hf⟩ := ob hf
    obtain ⟨s2, es2, hf⟩ := ob hf
    refine Le.of (t := (s.1, d1)) rfl ((le_nMul es2).tr ?_)
    exact Le.via (le_X8_init_16 hf) rfl
  · cases hf
set_option maxRecDepth 20000 in
theorem zm_X8_init {N : Nat} {s : AS} {l0 : Nat} {l1 : Int32} {l2 : Int32} {r : AS} (hf : f_X8_init N l0 l1 l2 s = some r) : isO s.1 l0 8 ∧ ∀ (l : Launch) (G : GG), Mt l G yX8_init cX8_init 3 none 1 [.ref l0, .int l1, .int l2] s none r := by
  have hf0 := hf
  unfold f_X8_init at hf
  split at hf
  · rename_i hO
    refine ⟨hO, fun l G => mt_of (Or.inl (by decide)) (Nat.le_of_ble_eq_true rfl) (lm_X8_init hf0) (fun E hE => ?_)⟩
    show Z E yX8_init cX8_init 3 none 1 s 0 [(0, .ref l0), (1, .int l1), (2, .int l2)] []
    refine z_aload_n 0 dX8_init_0 rfl rfl ?_
    refine z_objInit mw_4_1 mw_1_10 mw_1_11 (by decide) (Nat.le_of_ble_eq_true rfl) dX8_init_1 ?_
    refine z_aload_n 0 dX8_init_4 rfl rfl ?_
    refine z_iconst 0 0 dX8_init_5 (by decide) ?_
    refine z_pI (ci := 8) (k := 1) (C := RX8) (T := TX8) (N := 2) rfl inlX8 (by decide) mw_4_2 (fun _ _ _ _ h9 => h9) tyX8 tyX8_ok nmX8 rfl hf (Or.inl (by decide)) rfl rfl rfl dX8_init_6  (fun d1 hf => ?_)
    refine z_aload_n 0 dX8_init_9 rfl rfl ?_
    refine z_iload_n 1 dX8_init_10 rfl rfl ?_
    refine z_iload_n 2 dX8_init_11 rfl rfl ?_
    refine z_mul hf (fun _ hf => tg_le hE (le_X8_init_16 hf)) mw_4_3 mw_2_13 dX8_init_12 (fun s2 hf => ?_)
    refine z_lv [] [] rfl ?_
    exact zb_X8_init_16 hE hf
  · cases hf
