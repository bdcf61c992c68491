set_option maxRecDepth 20000 in
theorem zb_X10_prepare_134 {N : Nat} {sh : Sh} {r : Dt} {E : EV} (hE : TG E none (sh, r))  {l0 : Nat} {d : Dt} (hf : f_X10_prepare_134 N sh l0 d = some r) : Z E yX10_prepare cX10_prepare 4 none 3 (sh, d) 134 [(0, .ref l0)] [] := by
  unfold f_X10_prepare_134 at hf
  refine z_aload_n 0 dX10_prepare_134 rfl rfl ?_
  refine z_lconst 0 0 dX10_prepare_135 (by decide) ?_
  refine z_pJ (ci := 10) (k := 4) (C := RX10) (T := TX10) (N := 6) rfl inlX10 (by decide) mw_4_17 (fun _ _ _ _ h9 => h9) tyX10 tyX10_ok nmX10 rfl hf (Or.inl (by decide)) rfl rfl rfl dX10_prepare_136  (fun d24 hf => ?_)
  refine z_aload_n 0 dX10_prepare_139 rfl rfl ?_
  refine z_iconst 1 1 dX10_prepare_140 (by decide) ?_
  refine z_pI (ci := 10) (k := 5) (C := RX10) (T := TX10) (N := 6) rfl inlX10 (by decide) mw_4_18 (fun _ _ _ _ h9 => h9) tyX10 tyX10_ok nmX10 rfl hf (Or.inl (by decide)) rfl rfl rfl dX10_prepare_141  (fun d25 hf => ?_)
  cases hf
  exact z_return hE rfl dX10_prepare_144
set_option maxRecDepth 20000 in
theorem zb_X10_prepare_128 {N : Nat} {sh : Sh} {k42 : Nat → Int32 → Dt → Option Dt} {r : Dt} {E : EV} (hE : TG E none (sh, r)) (hk42 : ∀ (l0 : Nat) (l1 : Int32) (d : Dt), k42 l0 l1 d = some r → Z E yX10_prepare cX10_prepare 4 none 3 (sh, d) 42 [(0, .ref l0), (1, .int l1)] []) {l0 : Nat} {l1 : Int32} {d : Dt} (hf : f_X10_prepare_128 N sh k42 l0 l1 d = some r) : Z E yX10_prepare cX10_prepare 4 none 3 (sh, d) 128 [(0, .ref l0), (1, .int l1)] [] := by
  unfold f_X10_prepare_128 at hf
  refine z_iinc [(1, .int (l1 + 1)), (0, .ref l0)] 1 (l1 + 1) dX10_prepare_128 rfl rfl (by decide) rfl ?_
  refine z_goto 42 dX10_prepare_131 (by decide) ?_
  refine z_lv [(0, .ref l0), (1, .int (l1 + 1))] [1, 0] rfl ?_
  exact hk42 _ _ _ hf
set_option maxRecDepth 20000 in
theorem zg_X10_prepare_42 {N : Nat} {sh : Sh} {r : Dt} {k42 : Nat → Int32 → Dt → Option Dt} {E : EV} (hE : TG E none (sh, r))  (hk42 : ∀ (l0 : Nat) (l1 : Int32) (d : Dt), k42 l0 l1 d = some r → Z E yX10_prepare cX10_prepare 4 none 3 (sh, d) 42 [(0, .ref l0), (1, .int l1)] []) {l0 : Nat} {l1 : Int32} {d : Dt} (hf : g_X10_prepare_42 N sh k42 l0 l1 d = some r) : Z E yX10_prepare cX10_prepare 4 none 3 (sh, d) 42 [(0, .ref l0), (1, .int l1)] [] := by
  unfold g_X10_prepare_42 at hf
  refine z_iload_n 1 dX10_prepare_42 rfl rfl ?_
  refine z_aload_n 0 dX10_prepare_43 rfl rfl ?_
  refine z_gP (ci := 10) (k := 0) (C := RX10) (T := TX10) (N := 6) rfl inlX10 (by decide) mw_4_19 (fun _ _ _ _ h9 => h9) hf (by decide) rfl dX10_prepare_44  (fun v7 hf => ?_)
  refine z_gP (ci := 1) (k := 1) (C := RX1) (T := TX1) (N := 8) rfl inlX1 (by decide) mw_16_6 (fun _ _ _ _ h9 => h9) hf (by decide) rfl dX10_prepare_47  (fun v8 hf => ?_)
  refine z_gI (ci := 8) (k := 1) (C := RX8) (T := TX8) (N := 2) rfl inlX8 (by decide) mw_16_7 (fun _ _ _ _ h9 => h9) hf (by decide) rfl dX10_prepare_50  (fun v9 hf => ?_)
  refine z_icmp_ge 134 hf dX10_prepare_53 (by decide) (fun hf => ?_) (fun hf => ?_)
  · refine z_lv [(0, .ref l0)] [0] rfl ?_
    exact zb_X10_prepare_134 hE hf
  · refine z_aload_n 0 dX10_prepare_56 rfl rfl ?_
    refine z_gP (ci := 10) (k := 0) (C := RX10) (T := TX10) (N := 6) rfl inlX10 (by decide) mw_4_19 (fun _ _ _ _ h9 => h9) hf (by decide) rfl dX10_prepare_57  (fun v10 hf => ?_)
    refine z_gP (ci := 1) (k := 1) (C := RX1) (T := TX1) (N := 8) rfl inlX1 (by decide) mw_16_6 (fun _ _ _ _ h9 => h9) hf (by decide) rfl dX10_prepare_60  (fun v11 hf => ?_)
    refine z_iload_n 1 dX10_prepare_63 rfl rfl ?_
    refine z_bipush 7 7 dX10_prepare_64 (by decide) ?_
    obtain ⟨v12, ev12, hf⟩ := ob hf
    refine z_cVi (ci := 8) (T := TX8) (N := 2) (As := [.int l1, .int (7 : Int32)]) (rest := []) (zm_X8_get ev12).2 (zm_X8_get ev12).1 (by decide) rfl (Or.inl rfl) mw_16_12 mw_10_11 mw_10_12 mw_3_13 mw_10_13 yk_X8_get (by decide) (by decide) rfl (Nat.le_of_ble_eq_true rfl) rfl dX10_prepare_66 ?_
    refine z_istore_n [(2, .int v12), (0, .ref l0), (1, .int l1)] dX10_prepare_69 rfl (by decide) rfl ?_
    refine z_aload_n 1 dX10_prepare_70 rfl rfl ?_
    refine z_gP (ci := 10) (k := 0) (C := RX10) (T := TX10) (N := 6) rfl inlX10 (by decide) mw_4_19 (fun _ _ _ _ h9 => h9) hf (by decide) rfl dX10_prepare_71  (fun v13 hf => ?_)
    refine z_gP (ci := 1) (k := 1) (C := RX1) (T := TX1) (N := 8) rfl inlX1 (by decide) mw_16_6 (fun _ _ _ _ h9 => h9) hf (by decide) rfl dX10_prepare_74  (fun v14 hf => ?_)
    refine z_iload_n 2 dX10_prepare_77 rfl rfl ?_
    refine z_bipush 8 8 dX10_prepare_78 (by decide) ?_
    obtain ⟨v15, ev15, hf⟩ := ob hf
    refine z_cVi (ci := 8) (T := TX8) (N := 2) (As := [.int l1, .int (8 : Int32)]) (rest := []) (zm_X8_get ev15).2 (zm_X8_get ev15).1 (by decide) rfl (Or.inl rfl) mw_16_12 mw_10_11 mw_10_12 mw_3_13 mw_10_13 yk_X8_get (by decide) (by decide) rfl (Nat.le_of_ble_eq_true rfl) rfl dX10_prepare_80 ?_
    refine z_istore_n [(3, .int v15), (2, .int v12), (0, .ref l0), (1, .int l1)] dX10_prepare_83 rfl (by decide) rfl ?_
    refine z_aload_n 2 dX10_prepare_84 rfl rfl ?_
    refine z_gP (ci := 10) (k := 0) (C := RX10) (T := TX10) (N := 6) rfl inlX10 (by decide) mw_4_19 (fun _ _ _ _ h9 => h9) hf (by decide) rfl dX10_prepare_85  (fun v16 hf => ?_)
    refine z_gP (ci := 1) (k := 1) (C := RX1) (T := TX1) (N := 8) rfl inlX1 (by decide) mw_16_6 (fun _ _ _ _ h9 => h9) hf (by decide) rfl dX10_prepare_88  (fun v17 hf => ?_)
    refine z_iload_n 3 dX10_prepare_91 rfl rfl ?_
    refine z_iconst 4 4 dX10_prepare_92 (by decide) ?_
    obtain ⟨v18, ev18, hf⟩ := ob hf
    refine z_cVi (ci := 8) (T := TX8) (N := 2) (As := [.int l1, .int (4 : Int32)]) (rest := []) (zm_X8_get ev18).2 (zm_X8_get ev18).1 (by decide) rfl (Or.inl rfl) mw_16_12 mw_10_11 mw_10_12 mw_3_13 mw_10_13 yk_X8_get (by decide) (by decide) rfl (Nat.le_of_ble_eq_true rfl) rfl dX10_prepare_93 ?_
    refine z_if_ne 128 hf dX10_prepare_96 (by decide) (fun hf => ?_) (fun hf => ?_)
    · refine z_lv [(0, .ref l0), (1, .int l1)] [2, 3] rfl ?_
      exact zb_X10_prepare_128 hE hk42 hf
    · refine z_aload_n 2 dX10_prepare_99 rfl rfl ?_
      refine z_iload_n 1 dX10_prepare_100 rfl rfl ?_
      refine z_iload_n 0 dX10_prepare_101 rfl rfl ?_
      refine z_iload_n 3 dX10_prepare_102 rfl rfl ?_
      obtain ⟨v19, ev19, hf⟩ := ob hf
      refine z_cVv (ci := 10) (T := TX10) (N := 6) (As := [.int v12, .int v15, .int l1]) (rest := []) (zm_X10_offer ev19).2 (zm_X10_offer ev19).1 (by decide) rfl (Or.inl rfl) mw_16_13 mw_16_14 mw_16_15 mw_1_23 mw_16_16 yk_X10_offer (by decide) (by decide) rfl (Nat.le_of_ble_eq_true rfl) rfl dX10_prepare_103 ?_
      refine z_aload_n 2 dX10_prepare_106 rfl rfl ?_
      refine z_gP (ci := 10) (k := 0) (C := RX10) (T := TX10) (N := 6) rfl inlX10 (by decide) mw_4_19 (fun _ _ _ _ h9 => h9) hf (by decide) rfl dX10_prepare_107  (fun v20 hf => ?_)
      refine z_gP (ci := 1) (k := 1) (C := RX1) (T := TX1) (N := 8) rfl inlX1 (by decide) mw_16_6 (fun _ _ _ _ h9 => h9) hf (by decide) rfl dX10_prepare_110  (fun v21 hf => ?_)
      refine z_iload_n 3 dX10_prepare_113 rfl rfl ?_
      refine z_iconst 5 5 dX10_prepare_114 (by decide) ?_
      obtain ⟨v22, ev22, hf⟩ := ob hf
      refine z_cVi (ci := 8) (T := TX8) (N := 2) (As := [.int l1, .int (5 : Int32)]) (rest := []) (zm_X8_get ev22).2 (zm_X8_get ev22).1 (by decide) rfl (Or.inl rfl) mw_16_12 mw_10_11 mw_10_12 mw_3_13 mw_10_13 yk_X8_get (by decide) (by decide) rfl (Nat.le_of_ble_eq_true rfl) rfl dX10_prepare_115 ?_
      refine z_if_ne 128 hf dX10_prepare_118 (by decide) (fun hf => ?_) (fun hf => ?_)
      · refine z_lv [(0, .ref l0), (1, .int l1)] [2, 3] rfl ?_
        exact zb_X10_prepare_128 hE hk42 hf
      · refine z_aload_n 2 dX10_prepare_121 rfl rfl ?_
        refine z_iload_n 0 dX10_prepare_122 rfl rfl ?_
        refine z_iload_n 1 dX10_prepare_123 rfl rfl ?_
        refine z_iload_n 3 dX10_prepare_124 rfl rfl ?_
        obtain ⟨v23, ev23, hf⟩ := ob hf
        refine z_cVv (ci := 10) (T := TX10) (N := 6) (As := [.int v15, .int v12, .int l1]) (rest := []) (zm_X10_offer ev23).2 (zm_X10_offer ev23).1 (by decide) rfl (Or.inl rfl) mw_16_13 mw_16_14 mw_16_15 mw_1_23 mw_16_16 yk_X10_offer (by decide) (by decide) rfl (Nat.le_of_ble_eq_true rfl) rfl dX10_prepare_125 ?_
        refine z_lv [(0, .ref l0), (1, .int l1)] [2, 3] rfl ?_
        exact zb_X10_prepare_128 hE hk42 hf
set_option maxRecDepth 20000 in
theorem zb_X10_prepare_42 {N : Nat} {sh : Sh} {r : Dt} {E : EV} (hE : TG E none (sh, r))  : ∀ (n : Nat) (l0 : Nat) (l1 : Int32) (d : Dt), f_X10_prepare_42 N sh n l0 l1 d = some r → Z E yX10_prepare cX10_prepare 4 none 3 (sh, d) 42 [(0, .ref l0), (1, .int l1)] [] := by
  intro n
  induction n with
  | zero => intro l0 l1 d hf; cases hf
  | succ n ih => intro l0 l1 d hf; exact zg_X10_prepare_42 hE ih hf
set_option maxRecDepth 20000 in
theorem zb_X10_prepare_32 {N : Nat} {sh : Sh} {r : Dt} {E : EV} (hE : TG E none (sh, r))  {l0 : Nat} {d : Dt} (hf : f_X10_prepare_32 N sh l0 d = some r) : Z E yX10_prepare cX10_prepare 4 none 3 (sh, d) 32 [(0, .ref l0)] [] := by
  unfold f_X10_prepare_32 at hf
  refine z_aload_n 0 dX10_prepare_32 rfl rfl ?_
  refine z_gP (ci := 10) (k := 2) (C := RX10) (T := TX10) (N := 6) rfl inlX10 (by decide) mw_4_15 (fun _ _ _ _ h9 => h9) hf (by decide) rfl dX10_prepare_33  (fun v5 hf => ?_)
  refine z_lconst 0 0 dX10_prepare_36 (by decide) ?_
  obtain ⟨v6, ev6, hf⟩ := ob hf
  refine z_cTv (As := [.ref v5, .long (0 : Int64)]) (rest := []) (zm_J7_fill_d0a16 ev6) (Or.inl rfl) mw_16_9 mw_16_10 mw_4_7 mw_16_11 yk_J7_fill_d0a16 (by decide) (by decide) rfl (Nat.le_of_ble_eq_true rfl) rfl dX10_prepare_37 ?_
  refine z_iconst 0 0 dX10_prepare_40 (by decide) ?_
  refine z_istore_n [(1, .int (0 : Int32)), (0, .ref l0)] dX10_prepare_41 rfl (by decide) rfl ?_
  refine z_lv [(0, .ref l0), (1, .int (0 : Int32))] [1, 0] rfl ?_
  exact zb_X10_prepare_42 hE N _ _ _ hf
set_option maxRecDepth 20000 in
theorem zg_X10_prepare_10 {N : Nat} {sh : Sh} {r : Dt} {k10 : Nat → Int32 → Dt → Option Dt} {E : EV} (hE : TG E none (sh, r))  (hk10 : ∀ (l0 : Nat) (l1 : Int32) (d : Dt), k10 l0 l1 d = some r → Z E yX10_prepare cX10_prepare 4 none 3 (sh, d) 10 [(0, .ref l0), (1, .int l1)] []) {l0 : Nat} {l1 : Int32} {d : Dt} (hf : g_X10_prepare_10 N sh k10 l0 l1 d = some r) : Z E yX10_prepare cX10_prepare 4 none 3 (sh, d) 10 [(0, .ref l0), (1, .int l1)] [] := by
  unfold g_X10_prepare_10 at hf
  refine z_iload_n 1 dX10_prepare_10 rfl rfl ?_
  refine z_bipush 60 60 dX10_prepare_11 (by decide) ?_
  refine z_icmp_ge 32 hf dX10_prepare_13 (by decide) (fun hf => ?_) (fun hf => ?_)
  · refine z_lv [(0, .ref l0)] [0] rfl ?_
    exact zb_X10_prepare_32 hE hf
  · refine z_aload_n 0 dX10_prepare_16 rfl rfl ?_
    refine z_gP (ci := 10) (k := 1) (C := RX10) (T := TX10) (N := 6) rfl inlX10 (by decide) mw_4_14 (fun _ _ _ _ h9 => h9) hf (by decide) rfl dX10_prepare_17  (fun v2 hf => ?_)
    refine z_iload_n 1 dX10_prepare_20 rfl rfl ?_
    refine z_aR hf dX10_prepare_21  (fun v3 hf => ?_)
    refine z_iconst (-1) (-1) dX10_prepare_22 (by decide) ?_
    obtain ⟨v4, ev4, hf⟩ := ob hf
    refine z_cTv (As := [.ref v3, .int (-1 : Int32)]) (rest := []) (zm_J7_fill_53178 ev4) (Or.inl rfl) mw_16_8 mw_4_6 mw_4_7 mw_4_8 yk_J7_fill_53178 (by decide) (by decide) rfl (Nat.le_of_ble_eq_true rfl) rfl dX10_prepare_23 ?_
    refine z_iinc [(1, .int (l1 + 1)), (0, .ref l0)] 1 (l1 + 1) dX10_prepare_26 rfl rfl (by decide) rfl ?_
    refine z_goto 10 dX10_prepare_29 (by decide) ?_
    refine z_lv [(0, .ref l0), (1, .int (l1 + 1))] [1, 0] rfl ?_
    exact hk10 _ _ _ hf
set_option maxRecDepth 20000 in
theorem zb_X10_prepare_10 {N : Nat} {sh : Sh} {r : Dt} {E : EV} (hE : TG E none (sh, r))  : ∀ (n : Nat) (l0 : Nat) (l1 : Int32) (d : Dt), f_X10_prepare_10 N sh n l0 l1 d = some r → Z E yX10_prepare cX10_prepare 4 none 3 (sh, d) 10 [(0, .ref l0), (1, .int l1)] [] := by
  intro n
  induction n with
  | zero => intro l0 l1 d hf; cases hf
  | succ n ih => intro l0 l1 d hf; exact zg_X10_prepare_10 hE ih hf
set_option maxRecDepth 20000 in
theorem zm_X10_prepare {N : Nat} {sh : Sh} {d : Dt} {l0 : Nat} {r : Dt} (hf : f_X10_prepare N sh l0 d = some r) : isO sh l0 10 ∧ ∀ (l : Launch) (G : GG), Mt l G yX10_prepare cX10_prepare 4 none 3 [.ref l0] (sh, d) none (sh, r) := by
  have hf0 := hf
  unfold f_X10_prepare at hf
  refine ite_d hf (fun hO hf => ?_) (fun _ hf => ?_)
  · refine ⟨hO, fun l G => mt_of (Or.inl (by decide)) (Nat.le_of_ble_eq_true rfl) Le.rf (fun E hE => ?_)⟩
    show Z E yX10_prepare cX10_prepare 4 none 3 (sh, d) 0 [(0, .ref l0)] []
    refine z_aload_n 0 dX10_prepare_0 rfl rfl ?_
    refine z_gI (ci := 10) (k := 5) (C := RX10) (T := TX10) (N := 6) rfl inlX10 (by decide) mw_4_18 (fun _ _ _ _ h9 => h9) hf (by decide) rfl dX10_prepare_1  (fun v1 hf => ?_)
    refine z_if_eq 8 hf dX10_prepare_4 (by decide) (fun hf => ?_) (fun hf => ?_)
    · refine z_iconst 0 0 dX10_prepare_8 (by decide) ?_
      refine z_istore_n [(1, .int (0 : Int32)), (0, .ref l0)] dX10_prepare_9 rfl (by decide) rfl ?_
      refine z_lv [(0, .ref l0), (1, .int (0 : Int32))] [1, 0] rfl ?_
      exact zb_X10_prepare_10 hE N _ _ _ hf
    · cases hf
      exact z_return hE rfl dX10_prepare_7
  · cases hf
set_option maxRecDepth 20000 in
theorem zb_X10_measureEach_53 {N : Nat} {sh : Sh} {r : Dt} {E : EV} (hE : TG E none (sh, r))  {l0 : Nat} {l1 : Int64} {d : Dt} (hf : f_X10_measureEach_53 N sh l0 l1 d = some r) : Z E yX10_measureEach cX10_measureEach 4 none 5 (sh, d) 53 [(0, .ref l0), (1, .long l1)] [] := by
  unfold f_X10_measureEach_53 at hf
  refine z_aload_n 0 dX10_measureEach_53 rfl rfl ?_
  refine z_dup dX10_measureEach_54 rfl ?_
  refine z_gJ (ci := 10) (k := 4) (C := RX10) (T := TX10) (N := 6) rfl inlX10 (by decide) mw_4_17 (fun _ _ _ _ h9 => h9) hf (by decide) rfl dX10_measureEach_55  (fun v6 hf => ?_)
  refine z_lload_n 1 dX10_measureEach_58 rfl rfl ?_
  refine z_lor dX10_measureEach_59 ?_
  refine z_pJ (ci := 10) (k := 4) (C := RX10) (T := TX10) (N := 6) rfl inlX10 (by decide) mw_4_17 (fun _ _ _ _ h9 => h9) tyX10 tyX10_ok nmX10 rfl hf (Or.inl (by decide)) rfl rfl rfl dX10_measureEach_60  (fun d7 hf => ?_)
  cases hf
  exact z_return hE rfl dX10_measureEach_63
set_option maxRecDepth 20000 in
theorem zb_X10_measureEach_47 {N : Nat} {sh : Sh} {k6 : Nat → Int64 → Int32 → Dt → Option Dt} {r : Dt} {E : EV} (hE : TG E none (sh, r)) (hk6 : ∀ (l0 : Nat) (l1 : Int64) (l3 : Int32) (d : Dt), k6 l0 l1 l3 d = some r → Z E yX10_measureEach cX10_measureEach 4 none 5 (sh, d) 6 [(0, .ref l0), (1, .long l1), (3, .int l3)] []) {l0 : Nat} {l1 : Int64} {l3 : Int32} {d : Dt} (hf : f_X10_measureEach_47 N sh k6 l0 l1 l3 d = some r) : Z E yX10_measureEach cX10_measureEach 4 none 5 (sh, d) 47 [(0, .ref l0), (1, .long l1), (3, .int l3)] [] := by
  unfold f_X10_measureEach_47 at hf
  refine z_iinc [(3, .int (l3 + 1)), (0, .ref l0), (1, .long l1)] 2 (l3 + 1) dX10_measureEach_47 rfl rfl (by decide) rfl ?_
  refine z_goto 6 dX10_measureEach_50 (by decide) ?_
  refine z_lv [(0, .ref l0), (1, .long l1), (3, .int (l3 + 1))] [1, 2, 0] rfl ?_
  exact hk6 _ _ _ _ hf
set_option maxRecDepth 20000 in
theorem zg_X10_measureEach_6 {N : Nat} {sh : Sh} {r : Dt} {k6 : Nat → Int64 → Int32 → Dt → Option Dt} {E : EV} (hE : TG E none (sh, r))  (hk6 : ∀ (l0 : Nat) (l1 : Int64) (l3 : Int32) (d : Dt), k6 l0 l1 l3 d = some r → Z E yX10_measureEach cX10_measureEach 4 none 5 (sh, d) 6 [(0, .ref l0), (1, .long l1), (3, .int l3)] []) {l0 : Nat} {l1 : Int64} {l3 : Int32} {d : Dt} (hf : g_X10_measureEach_6 N sh k6 l0 l1 l3 d = some r) : Z E yX10_measureEach cX10_measureEach 4 none 5 (sh, d) 6 [(0, .ref l0), (1, .long l1), (3, .int l3)] [] := by
  unfold g_X10_measureEach_6 at hf
  refine z_iload_n 2 dX10_measureEach_6 rfl rfl ?_
  refine z_aload_n 0 dX10_measureEach_7 rfl rfl ?_
  refine z_gP (ci := 10) (k := 0) (C := RX10) (T := TX10) (N := 6) rfl inlX10 (by decide) mw_4_19 (fun _ _ _ _ h9 => h9) hf (by decide) rfl dX10_measureEach_8  (fun v2 hf => ?_)
  refine z_gI (ci := 1) (k := 0) (C := RX1) (T := TX1) (N := 8) rfl inlX1 (by decide) mw_16_0 (fun _ _ _ _ h9 => h9) hf (by decide) rfl dX10_measureEach_11  (fun v3 hf => ?_)
  refine z_icmp_ge 53 hf dX10_measureEach_14 (by decide) (fun hf => ?_) (fun hf => ?_)
  · refine z_lv [(0, .ref l0), (1, .long l1)] [0, 1] rfl ?_
    exact zb_X10_measureEach_53 hE hf
  · refine z_iload_n 2 dX10_measureEach_17 rfl rfl ?_
    refine z_bipush 60 60 dX10_measureEach_18 (by decide) ?_
    refine z_icmp_ge 53 hf dX10_measureEach_20 (by decide) (fun hf => ?_) (fun hf => ?_)
    · refine z_lv [(0, .ref l0), (1, .long l1)] [0, 1] rfl ?_
      exact zb_X10_measureEach_53 hE hf
    · refine z_lload_n 1 dX10_measureEach_23 rfl rfl ?_
      refine z_aload_n 0 dX10_measureEach_24 rfl rfl ?_
      refine z_gJ (ci := 10) (k := 4) (C := RX10) (T := TX10) (N := 6) rfl inlX10 (by decide) mw_4_17 (fun _ _ _ _ h9 => h9) hf (by decide) rfl dX10_measureEach_25  (fun v4 hf => ?_)
      refine z_ldc2 mw_16_1 dX10_measureEach_28 ?_
      refine z_lxor dX10_measureEach_31 ?_
      refine z_land dX10_measureEach_32 ?_
      refine z_iload_n 2 dX10_measureEach_33 rfl rfl ?_
      refine z_lshr dX10_measureEach_34 ?_
      refine z_lconst 1 1 dX10_measureEach_35 (by decide) ?_
      refine z_land dX10_measureEach_36 ?_
      refine z_lconst 1 1 dX10_measureEach_37 (by decide) ?_
      refine z_lcmp dX10_measureEach_38 ?_
      refine z_if_ne 47 hf dX10_measureEach_39 (by decide) (fun hf => ?_) (fun hf => ?_)
      · exact zb_X10_measureEach_47 hE hk6 hf
      · refine z_aload_n 0 dX10_measureEach_42 rfl rfl ?_
        refine z_iload_n 2 dX10_measureEach_43 rfl rfl ?_
        obtain ⟨v5, ev5, hf⟩ := ob hf
        refine z_cVv (ci := 10) (T := TX10) (N := 6) (As := [.int l3]) (rest := []) (zm_X10_measure ev5).2 (zm_X10_measure ev5).1 (by decide) rfl (Or.inl rfl) mw_16_17 mw_16_18 mw_16_19 mw_1_23 mw_16_20 yk_X10_measure (by decide) (by decide) rfl (Nat.le_of_ble_eq_true rfl) rfl dX10_measureEach_44 ?_
        exact zb_X10_measureEach_47 hE hk6 hf
set_option maxRecDepth 20000 in
theorem zb_X10_measureEach_6 {N : Nat} {sh : Sh} {r : Dt} {E : EV} (hE : TG E none (sh, r))  : ∀ (n : Nat) (l0 : Nat) (l1 : Int64) (l3 : Int32) (d : Dt), f_X10_measureEach_6 N sh n l0 l1 l3 d = some r → Z E yX10_measureEach cX10_measureEach 4 none 5 (sh, d) 6 [(0, .ref l0), (1, .long l1), (3, .int l3)] [] := by
  intro n
  induction n with
  | zero => intro l0 l1 l3 d hf; cases hf
  | succ n ih => intro l0 l1 l3 d hf; exact zg_X10_measureEach_6 hE ih hf
set_option maxRecDepth 20000 in
theorem zm_X10_measureEach {N : Nat} {sh : Sh} {d : Dt} {l0 : Nat} {l1 : Int64} {r : Dt} (hf : f_X10_measureEach N sh l0 l1 d = some r) : isO sh l0 10 ∧ ∀ (l : Launch) (G : GG), Mt l G yX10_measureEach cX10_measureEach 4 none 5 [.ref l0, .long l1] (sh, d) none (sh, r) := by
  have hf0 := hf
  unfold f_X10_measureEach at hf
  refine ite_d hf (fun hO hf => ?_) (fun _ hf => ?_)
  · refine ⟨hO, fun l G => mt_of (Or.inl (by decide)) (Nat.le_of_ble_eq_true rfl) Le.rf (fun E hE => ?_)⟩
    show Z E yX10_measureEach cX10_measureEach 4 none 5 (sh, d) 0 [(0, .ref l0), (1, .long l1)] []
    refine z_aload_n 0 dX10_measureEach_0 rfl rfl ?_
    obtain ⟨v1, ev1, hf⟩ := ob hf
    refine z_cVv (ci := 10) (T := TX10) (N := 6) (As := []) (rest := []) (zm_X10_prepare ev1).2 (zm_X10_prepare ev1).1 (by decide) rfl (Or.inl rfl) mw_16_2 mw_16_3 mw_16_4 mw_1_23 mw_16_5 yk_X10_prepare (by decide) (by decide) rfl (Nat.le_of_ble_eq_true rfl) rfl dX10_measureEach_1 ?_
    refine z_iconst 0 0 dX10_measureEach_4 (by decide) ?_
    refine z_istore_n [(3, .int (0 : Int32)), (0, .ref l0), (1, .long l1)] dX10_measureEach_5 rfl (by decide) rfl ?_
    refine z_lv [(0, .ref l0), (1, .long l1), (3, .int (0 : Int32))] [1, 2, 0] rfl ?_
    exact zb_X10_measureEach_6 hE N _ _ _ _ hf
  · cases hf
set_option maxRecDepth 20000 in
theorem zb_X10_nextStreet_17 {N : Nat} {sh : Sh} {d : Dt} {r : Int32} {E : EV} (hE : TG E (some (.int r)) (sh, d))   (hf : f_X10_nextStreet_17 N sh  d = some r) : Z E yX10_nextStreet cX10_nextStreet 6 (some .int) 2 (sh, d) 17 [] [] := by
  unfold f_X10_nextStreet_17 at hf
  refine z_iconst (-1) (-1) dX10_nextStreet_17 (by decide) ?_
  cases hf
  exact z_ireturn hE rfl dX10_nextStreet_18
set_option maxRecDepth 20000 in
theorem zb_X10_nextStreet_83 {N : Nat} {sh : Sh} {d : Dt} {r : Int32} {E : EV} (hE : TG E (some (.int r)) (sh, d))   (hf : f_X10_nextStreet_83 N sh  d = some r) : Z E yX10_nextStreet cX10_nextStreet 6 (some .int) 2 (sh, d) 83 [] [] := by
  unfold f_X10_nextStreet_83 at hf
  refine z_iconst (-1) (-1) dX10_nextStreet_83 (by decide) ?_
  cases hf
  exact z_ireturn hE rfl dX10_nextStreet_84
set_option maxRecDepth 20000 in
theorem zb_X10_nextStreet_77 {N : Nat} {sh : Sh} {d : Dt} {k22 : Nat → Int32 → Int32 → Int32 → Int32 → Option Int32} {r : Int32} {E : EV} (hE : TG E (some (.int r)) (sh, d)) (hk22 : ∀ (l0 : Nat) (l1 : Int32) (l2 : Int32) (l3 : Int32) (l4 : Int32), k22 l0 l1 l2 l3 l4 = some r → Z E yX10_nextStreet cX10_nextStreet 6 (some .int) 2 (sh, d) 22 [(0, .ref l0), (1, .int l1), (2, .int l2), (3, .int l3), (4, .int l4)] []) {l0 : Nat} {l1 : Int32} {l2 : Int32} {l3 : Int32} {l4 : Int32} (hf : f_X10_nextStreet_77 N sh k22 l0 l1 l2 l3 l4 d = some r) : Z E yX10_nextStreet cX10_nextStreet 6 (some .int) 2 (sh, d) 77 [(0, .ref l0), (1, .int l1), (2, .int l2), (3, .int l3), (4, .int l4)] [] := by
  unfold f_X10_nextStreet_77 at hf
  refine z_iinc [(4, .int (l4 + 1)), (0, .ref l0), (1, .int l1), (2, .int l2), (3, .int l3)] 4 (l4 + 1) dX10_nextStreet_77 rfl rfl (by decide) rfl ?_
  refine z_goto 22 dX10_nextStreet_80 (by decide) ?_
  refine z_lv [(0, .ref l0), (1, .int l1), (2, .int l2), (3, .int l3), (4, .int (l4 + 1))] [1, 2, 3, 4, 0] rfl ?_
  exact hk22 _ _ _ _ _ hf
set_option maxRecDepth 20000 in
theorem zb_X10_nextStreet_74 {N : Nat} {sh : Sh} {d : Dt} {r : Int32} {E : EV} (hE : TG E (some (.int r)) (sh, d))  {l5 : Int32} (hf : f_X10_nextStreet_74 N sh l5 d = some r) : Z E yX10_nextStreet cX10_nextStreet 6 (some .int) 2 (sh, d) 74 [(5, .int l5)] [] := by
  unfold f_X10_nextStreet_74 at hf
  refine z_iload 0 dX10_nextStreet_74 rfl ?_
  cases hf
  exact z_ireturn hE rfl dX10_nextStreet_76
set_option maxRecDepth 20000 in
theorem zg_X10_nextStreet_22 {N : Nat} {sh : Sh} {d : Dt} {r : Int32} {k22 : Nat → Int32 → Int32 → Int32 → Int32 → Option Int32} {E : EV} (hE : TG E (some (.int r)) (sh, d))  (hk22 : ∀ (l0 : Nat) (l1 : Int32) (l2 : Int32) (l3 : Int32) (l4 : Int32), k22 l0 l1 l2 l3 l4 = some r → Z E yX10_nextStreet cX10_nextStreet 6 (some .int) 2 (sh, d) 22 [(0, .ref l0), (1, .int l1), (2, .int l2), (3, .int l3), (4, .int l4)] []) {l0 : Nat} {l1 : Int32} {l2 : Int32} {l3 : Int32} {l4 : Int32} (hf : g_X10_nextStreet_22 N sh k22 l0 l1 l2 l3 l4 d = some r) : Z E yX10_nextStreet cX10_nextStreet 6 (some .int) 2 (sh, d) 22 [(0, .ref l0), (1, .int l1), (2, .int l2), (3, .int l3), (4, .int l4)] [] := by
  unfold g_X10_nextStreet_22 at hf
  refine z_iload 4 dX10_nextStreet_22 rfl ?_
  refine z_bipush 60 60 dX10_nextStreet_24 (by decide) ?_
  refine z_icmp_ge 83 hf dX10_nextStreet_26 (by decide) (fun hf => ?_) (fun hf => ?_)
  · refine z_lv [] [] rfl ?_
    exact zb_X10_nextStreet_83 hE hf
  · refine z_aload_n 0 dX10_nextStreet_29 rfl rfl ?_
    refine z_gP (ci := 10) (k := 1) (C := RX10) (T := TX10) (N := 6) rfl inlX10 (by decide) mw_4_14 (fun _ _ _ _ h9 => h9) hf (by decide) rfl dX10_nextStreet_30  (fun v2 hf => ?_)
    refine z_iload_n 1 dX10_nextStreet_33 rfl rfl ?_
    refine z_aR hf dX10_nextStreet_34  (fun v3 hf => ?_)
    refine z_iload 4 dX10_nextStreet_35 rfl ?_
    refine z_aI hf dX10_nextStreet_37  (fun v4 hf => ?_)
    refine z_istore [(5, .int v4), (0, .ref l0), (1, .int l1), (2, .int l2), (3, .int l3), (4, .int l4)] dX10_nextStreet_38 (by decide) rfl ?_
    refine z_iload 0 dX10_nextStreet_40 rfl ?_
    refine z_iconst (-1) (-1) dX10_nextStreet_42 (by decide) ?_
    refine z_icmp_eq 77 hf dX10_nextStreet_43 (by decide) (fun hf => ?_) (fun hf => ?_)
    · refine z_lv [(0, .ref l0), (1, .int l1), (2, .int l2), (3, .int l3), (4, .int l4)] [1, 2, 3, 4, 5] rfl ?_
      exact zb_X10_nextStreet_77 hE hk22 hf
    · refine z_aload_n 1 dX10_nextStreet_46 rfl rfl ?_
      refine z_gP (ci := 10) (k := 0) (C := RX10) (T := TX10) (N := 6) rfl inlX10 (by decide) mw_4_19 (fun _ _ _ _ h9 => h9) hf (by decide) rfl dX10_nextStreet_47  (fun v5 hf => ?_)
      refine z_gP (ci := 1) (k := 1) (C := RX1) (T := TX1) (N := 8) rfl inlX1 (by decide) mw_16_6 (fun _ _ _ _ h9 => h9) hf (by decide) rfl dX10_nextStreet_50  (fun v6 hf => ?_)
      refine z_iload 0 dX10_nextStreet_53 rfl ?_
      refine z_bipush 6 6 dX10_nextStreet_55 (by decide) ?_
      obtain ⟨v7, ev7, hf⟩ := ob hf
      refine z_cVi (ci := 8) (T := TX8) (N := 2) (As := [.int v4, .int (6 : Int32)]) (rest := []) (zm_X8_get ev7).2 (zm_X8_get ev7).1 (by decide) rfl (Or.inl rfl) mw_16_12 mw_10_11 mw_10_12 mw_3_13 mw_10_13 yk_X8_get (by decide) (by decide) rfl (Nat.le_of_ble_eq_true rfl) rfl dX10_nextStreet_57 ?_
      refine z_aload_n 1 dX10_nextStreet_60 rfl rfl ?_
      refine z_gP (ci := 10) (k := 3) (C := RX10) (T := TX10) (N := 6) rfl inlX10 (by decide) mw_4_16 (fun _ _ _ _ h9 => h9) hf (by decide) rfl dX10_nextStreet_61  (fun v8 hf => ?_)
      refine z_iload_n 3 dX10_nextStreet_64 rfl rfl ?_
      refine z_aR hf dX10_nextStreet_65  (fun v9 hf => ?_)
      refine z_iload 5 dX10_nextStreet_66 rfl ?_
      refine z_aI hf dX10_nextStreet_68  (fun v10 hf => ?_)
      refine z_iadd dX10_nextStreet_69 ?_
      refine z_iload_n 4 dX10_nextStreet_70 rfl rfl ?_
      refine z_icmp_ne 77 hf dX10_nextStreet_71 (by decide) (fun hf => ?_) (fun hf => ?_)
      · refine z_lv [(0, .ref l0), (1, .int l1), (2, .int l2), (3, .int l3), (4, .int l4)] [1, 2, 3, 4, 5] rfl ?_
        exact zb_X10_nextStreet_77 hE hk22 hf
      · refine z_lv [(5, .int v4)] [0] rfl ?_
        exact zb_X10_nextStreet_74 hE hf
set_option maxRecDepth 20000 in
theorem zb_X10_nextStreet_22 {N : Nat} {sh : Sh} {d : Dt} {r : Int32} {E : EV} (hE : TG E (some (.int r)) (sh, d))  : ∀ (n : Nat) (l0 : Nat) (l1 : Int32) (l2 : Int32) (l3 : Int32) (l4 : Int32), f_X10_nextStreet_22 N sh d n l0 l1 l2 l3 l4 = some r → Z E yX10_nextStreet cX10_nextStreet 6 (some .int) 2 (sh, d) 22 [(0, .ref l0), (1, .int l1), (2, .int l2), (3, .int l3), (4, .int l4)] [] := by
  intro n
  induction n with
  | zero => intro l0 l1 l2 l3 l4 hf; cases hf
  | succ n ih => intro l0 l1 l2 l3 l4 hf; exact zg_X10_nextStreet_22 hE ih hf
set_option maxRecDepth 20000 in
theorem zm_X10_nextStreet {N : Nat} {sh : Sh} {d : Dt} {l0 : Nat} {l1 : Int32} {l2 : Int32} {r : Int32} (hf : f_X10_nextStreet N sh l0 l1 l2 d = some r) : isO sh l0 10 ∧ ∀ (l : Launch) (G : GG), Mt l G yX10_nextStreet cX10_nextStreet 6 (some .int) 2 [.ref l0, .int l1, .int l2] (sh, d) (some (.int r)) (sh, d) := by
  have hf0 := hf
  unfold f_X10_nextStreet at hf
  refine ite_d hf (fun hO hf => ?_) (fun _ hf => ?_)
  · refine ⟨hO, fun l G => mt_of (Or.inl (by decide)) (Nat.le_of_ble_eq_true rfl) Le.rf (fun E hE => ?_)⟩
    show Z E yX10_nextStreet cX10_nextStreet 6 (some .int) 2 (sh, d) 0 [(0, .ref l0), (1, .int l1), (2, .int l2)] []
    refine z_aload_n 0 dX10_nextStreet_0 rfl rfl ?_
    refine z_iload_n 1 dX10_nextStreet_1 rfl rfl ?_
    refine z_iload_n 2 dX10_nextStreet_2 rfl rfl ?_
    obtain ⟨v1, ev1, hf⟩ := ob hf
    refine z_cVi (ci := 10) (T := TX10) (N := 6) (As := [.int l1, .int l2]) (rest := []) (zm_X10_between ev1).2 (zm_X10_between ev1).1 (by decide) rfl (Or.inl rfl) mw_19_0 mw_17_12 mw_17_13 mw_1_23 mw_17_14 yk_X10_between (by decide) (by decide) rfl (Nat.le_of_ble_eq_true rfl) rfl dX10_nextStreet_3 ?_
    refine z_istore_n [(3, .int v1), (0, .ref l0), (1, .int l1), (2, .int l2)] dX10_nextStreet_6 rfl (by decide) rfl ?_
    refine z_iload_n 0 dX10_nextStreet_7 rfl rfl ?_
    refine z_if_eq 17 hf dX10_nextStreet_8 (by decide) (fun hf => ?_) (fun hf => ?_)
    · refine z_lv [] [] rfl ?_
      exact zb_X10_nextStreet_17 hE hf
    · refine z_iload_n 0 dX10_nextStreet_11 rfl rfl ?_
      refine z_ldc mw_16_21 dX10_nextStreet_12 ?_
      refine z_icmp_lt 19 hf dX10_nextStreet_14 (by decide) (fun hf => ?_) (fun hf => ?_)
      · refine z_iconst 0 0 dX10_nextStreet_19 (by decide) ?_
        refine z_istore [(4, .int (0 : Int32)), (3, .int v1), (0, .ref l0), (1, .int l1), (2, .int l2)] dX10_nextStreet_20 (by decide) rfl ?_
        refine z_lv [(0, .ref l0), (1, .int l1), (2, .int l2), (3, .int v1), (4, .int (0 : Int32))] [2, 3, 4, 1, 0] rfl ?_
        exact zb_X10_nextStreet_22 hE N _ _ _ _ _ hf
      · refine z_lv [] [] rfl ?_
        exact zb_X10_nextStreet_17 hE hf
  · cases hf
set_option maxRecDepth 20000 in
theorem zb_X1_otherEnd_30 {N : Nat} {sh : Sh} {d : Dt} {r : Int32} {E : EV} (hE : TG E (some (.int r)) (sh, d))  {t0 : Int32} (hf : f_X1_otherEnd_30 N sh t0 d = some r) : Z E yX1_otherEnd cX1_otherEnd 4 (some .int) 2 (sh, d) 30 [] [.int t0] := by
  unfold f_X1_otherEnd_30 at hf
  cases hf
  exact z_ireturn hE rfl dX1_otherEnd_30
set_option maxRecDepth 20000 in
theorem zm_X1_otherEnd {N : Nat} {sh : Sh} {d : Dt} {l0 : Nat} {l1 : Int32} {l2 : Int32} {r : Int32} (hf : f_X1_otherEnd N sh l0 l1 l2 d = some r) : isO sh l0 1 ∧ ∀ (l : Launch) (G : GG), Mt l G yX1_otherEnd cX1_otherEnd 4 (some .int) 2 [.ref l0, .int l1, .int l2] (sh, d) (some (.int r)) (sh, d) := by
  have hf0 := hf
  unfold f_X1_otherEnd at hf
  refine ite_d hf (fun hO hf => ?_) (fun _ hf => ?_)
  · refine ⟨hO, fun l G => mt_of (Or.inl (by decide)) (Nat.le_of_ble_eq_true rfl) Le.rf (fun E hE => ?_)⟩
    show Z E yX1_otherEnd cX1_otherEnd 4 (some .int) 2 (sh, d) 0 [(0, .ref l0), (1, .int l1), (2, .int l2)] []
    refine z_aload_n 0 dX1_otherEnd_0 rfl rfl ?_
    refine z_gP (ci := 1) (k := 1) (C := RX1) (T := TX1) (N := 8) rfl inlX1 (by decide) mw_3_14 (fun _ _ _ _ h9 => h9) hf (by decide) rfl dX1_otherEnd_1  (fun v1 hf => ?_)
    refine z_iload_n 1 dX1_otherEnd_4 rfl rfl ?_
    refine z_bipush 7 7 dX1_otherEnd_5 (by decide) ?_
    obtain ⟨v2, ev2, hf⟩ := ob hf
    refine z_cVi (ci := 8) (T := TX8) (N := 2) (As := [.int l1, .int (7 : Int32)]) (rest := []) (zm_X8_get ev2).2 (zm_X8_get ev2).1 (by decide) rfl (Or.inl rfl) mw_10_10 mw_10_11 mw_10_12 mw_3_13 mw_10_13 yk_X8_get (by decide) (by decide) rfl (Nat.le_of_ble_eq_true rfl) rfl dX1_otherEnd_7 ?_
    refine z_istore_n [(3, .int v2), (0, .ref l0), (1, .int l1), (2, .int l2)] dX1_otherEnd_10 rfl (by decide) rfl ?_
    refine z_iload_n 0 dX1_otherEnd_11 rfl rfl ?_
    refine z_iload_n 3 dX1_otherEnd_12 rfl rfl ?_
    refine z_icmp_ne 29 hf dX1_otherEnd_13 (by decide) (fun hf => ?_) (fun hf => ?_)
    · refine z_iload_n 0 dX1_otherEnd_29 rfl rfl ?_
      refine z_lv [] [] rfl ?_
      exact zb_X1_otherEnd_30 hE hf
    · refine z_aload_n 1 dX1_otherEnd_16 rfl rfl ?_
      refine z_gP (ci := 1) (k := 1) (C := RX1) (T := TX1) (N := 8) rfl inlX1 (by decide) mw_3_14 (fun _ _ _ _ h9 => h9) hf (by decide) rfl dX1_otherEnd_17  (fun v3 hf => ?_)
      refine z_iload_n 2 dX1_otherEnd_20 rfl rfl ?_
      refine z_bipush 8 8 dX1_otherEnd_21 (by decide) ?_
      obtain ⟨v4, ev4, hf⟩ := ob hf
      refine z_cVi (ci := 8) (T := TX8) (N := 2) (As := [.int l1, .int (8 : Int32)]) (rest := []) (zm_X8_get ev4).2 (zm_X8_get ev4).1 (by decide) rfl (Or.inl rfl) mw_10_10 mw_10_11 mw_10_12 mw_3_13 mw_10_13 yk_X8_get (by decide) (by decide) rfl (Nat.le_of_ble_eq_true rfl) rfl dX1_otherEnd_23 ?_
      refine z_goto 30 dX1_otherEnd_26 (by decide) ?_
      refine z_lv [] [] rfl ?_
      exact zb_X1_otherEnd_30 hE hf
  · cases hf
set_option maxRecDepth 20000 in
theorem zb_X10_streetAt_10 {N : Nat} {sh : Sh} {d : Dt} {r : Int32} {E : EV} (hE : TG E (some (.int r)) (sh, d))   (hf : f_X10_streetAt_10 N sh  d = some r) : Z E yX10_streetAt cX10_streetAt 7 (some .int) 3 (sh, d) 10 [] [] := by
  unfold f_X10_streetAt_10 at hf
  refine z_iconst (-1) (-1) dX10_streetAt_10 (by decide) ?_
  cases hf
  exact z_ireturn hE rfl dX10_streetAt_11
set_option maxRecDepth 20000 in
theorem zb_X10_streetAt_67 {N : Nat} {sh : Sh} {d : Dt} {r : Int32} {E : EV} (hE : TG E (some (.int r)) (sh, d))  {l5 : Int32} (hf : f_X10_streetAt_67 N sh l5 d = some r) : Z E yX10_streetAt cX10_streetAt 7 (some .int) 3 (sh, d) 67 [(5, .int l5)] [] := by
  unfold f_X10_streetAt_67 at hf
  refine z_iload 0 dX10_streetAt_67 rfl ?_
  cases hf
  exact z_ireturn hE rfl dX10_streetAt_69
set_option maxRecDepth 20000 in
theorem zg_X10_streetAt_27 {N : Nat} {sh : Sh} {d : Dt} {r : Int32} {k27 : Nat → Int32 → Int32 → Int32 → Int32 → Int32 → Option Int32} {E : EV} (hE : TG E (some (.int r)) (sh, d))  (hk27 : ∀ (l0 : Nat) (l2 : Int32) (l3 : Int32) (l4 : Int32) (l5 : Int32) (l6 : Int32), k27 l0 l2 l3 l4 l5 l6 = some r → Z E yX10_streetAt cX10_streetAt 7 (some .int) 3 (sh, d) 27 [(0, .ref l0), (2, .int l2), (3, .int l3), (4, .int l4), (5, .int l5), (6, .int l6)] []) {l0 : Nat} {l2 : Int32} {l3 : Int32} {l4 : Int32} {l5 : Int32} {l6 : Int32} (hf : g_X10_streetAt_27 N sh k27 l0 l2 l3 l4 l5 l6 d = some r) : Z E yX10_streetAt cX10_streetAt 7 (some .int) 3 (sh, d) 27 [(0, .ref l0), (2, .int l2), (3, .int l3), (4, .int l4), (5, .int l5), (6, .int l6)] [] := by
  unfold g_X10_streetAt_27 at hf
  refine z_iload 5 dX10_streetAt_27 rfl ?_
  refine z_iload_n 2 dX10_streetAt_29 rfl rfl ?_
  refine z_icmp_ge 67 hf dX10_streetAt_30 (by decide) (fun hf => ?_) (fun hf => ?_)
  · refine z_lv [(5, .int l5)] [4] rfl ?_
    exact zb_X10_streetAt_67 hE hf
  · refine z_iload 4 dX10_streetAt_33 rfl ?_
    refine z_iconst (-1) (-1) dX10_streetAt_35 (by decide) ?_
    refine z_icmp_eq 67 hf dX10_streetAt_36 (by decide) (fun hf => ?_) (fun hf => ?_)
    · refine z_lv [(5, .int l5)] [4] rfl ?_
      exact zb_X10_streetAt_67 hE hf
    · refine z_aload_n 0 dX10_streetAt_39 rfl rfl ?_
      refine z_gP (ci := 10) (k := 0) (C := RX10) (T := TX10) (N := 6) rfl inlX10 (by decide) mw_4_19 (fun _ _ _ _ h9 => h9) hf (by decide) rfl dX10_streetAt_40  (fun v2 hf => ?_)
      refine z_iload 4 dX10_streetAt_43 rfl ?_
      refine z_iload 3 dX10_streetAt_45 rfl ?_
      obtain ⟨v3, ev3, hf⟩ := ob hf
      refine z_cVi (ci := 1) (T := TX1) (N := 8) (As := [.int l5, .int l4]) (rest := []) (zm_X1_otherEnd ev3).2 (zm_X1_otherEnd ev3).1 (by decide) rfl (Or.inl rfl) mw_19_1 mw_19_2 mw_19_3 mw_1_18 mw_19_4 yk_X1_otherEnd (by decide) (by decide) rfl (Nat.le_of_ble_eq_true rfl) rfl dX10_streetAt_47 ?_
      refine z_istore [(4, .int v3), (0, .ref l0), (2, .int l2), (3, .int l3), (5, .int l5), (6, .int l6)] dX10_streetAt_50 (by decide) rfl ?_
      refine z_aload_n 1 dX10_streetAt_52 rfl rfl ?_
      refine z_iload 0 dX10_streetAt_53 rfl ?_
      refine z_iload_n 2 dX10_streetAt_55 rfl rfl ?_
      obtain ⟨v4, ev4, hf⟩ := ob hf
      refine z_cVi (ci := 10) (T := TX10) (N := 6) (As := [.int v3, .int l2]) (rest := []) (zm_X10_nextStreet ev4).2 (zm_X10_nextStreet ev4).1 (by decide) rfl (Or.inl rfl) mw_18_20 mw_18_21 mw_18_22 mw_1_23 mw_18_23 yk_X10_nextStreet (by decide) (by decide) rfl (Nat.le_of_ble_eq_true rfl) rfl dX10_streetAt_56 ?_
      refine z_istore [(5, .int v4), (4, .int v3), (0, .ref l0), (2, .int l2), (3, .int l3), (6, .int l6)] dX10_streetAt_59 (by decide) rfl ?_
      refine z_iinc [(6, .int (l6 + 1)), (5, .int v4), (4, .int v3), (0, .ref l0), (2, .int l2), (3, .int l3)] 5 (l6 + 1) dX10_streetAt_61 rfl rfl (by decide) rfl ?_
      refine z_goto 27 dX10_streetAt_64 (by decide) ?_
      refine z_lv [(0, .ref l0), (2, .int l2), (3, .int l3), (4, .int v3), (5, .int v4), (6, .int (l6 + 1))] [3, 4, 5, 2, 1, 0] rfl ?_
      exact hk27 _ _ _ _ _ _ hf
set_option maxRecDepth 20000 in
theorem zb_X10_streetAt_27 {N : Nat} {sh : Sh} {d : Dt} {r : Int32} {E : EV} (hE : TG E (some (.int r)) (sh, d))  : ∀ (n : Nat) (l0 : Nat) (l2 : Int32) (l3 : Int32) (l4 : Int32) (l5 : Int32) (l6 : Int32), f_X10_streetAt_27 N sh d n l0 l2 l3 l4 l5 l6 = some r → Z E yX10_streetAt cX10_streetAt 7 (some .int) 3 (sh, d) 27 [(0, .ref l0), (2, .int l2), (3, .int l3), (4, .int l4), (5, .int l5), (6, .int l6)] [] := by
  intro n
  induction n with
  | zero => intro l0 l2 l3 l4 l5 l6 hf; cases hf
  | succ n ih => intro l0 l2 l3 l4 l5 l6 hf; exact zg_X10_streetAt_27 hE ih hf
set_option maxRecDepth 20000 in
theorem zm_X10_streetAt {N : Nat} {sh : Sh} {d : Dt} {l0 : Nat} {l1 : Int32} {l2 : Int32} {l3 : Int32} {r : Int32} (hf : f_X10_streetAt N sh l0 l1 l2 l3 d = some r) : isO sh l0 10 ∧ ∀ (l : Launch) (G : GG), Mt l G yX10_streetAt cX10_streetAt 7 (some .int) 3 [.ref l0, .int l1, .int l2, .int l3] (sh, d) (some (.int r)) (sh, d) := by
  have hf0 := hf
  unfold f_X10_streetAt at hf
  refine ite_d hf (fun hO hf => ?_) (fun _ hf => ?_)
  · refine ⟨hO, fun l G => mt_of (Or.inl (by decide)) (Nat.le_of_ble_eq_true rfl) Le.rf (fun E hE => ?_)⟩
    show Z E yX10_streetAt cX10_streetAt 7 (some .int) 3 (sh, d) 0 [(0, .ref l0), (1, .int l1), (2, .int l2), (3, .int l3)] []
    refine z_iload_n 3 dX10_streetAt_0 rfl rfl ?_
    refine z_if_lt 10 hf dX10_streetAt_1 (by decide) (fun hf => ?_) (fun hf => ?_)
    · refine z_lv [] [] rfl ?_
      exact zb_X10_streetAt_10 hE hf
    · refine z_iload_n 3 dX10_streetAt_4 rfl rfl ?_
      refine z_bipush 60 60 dX10_streetAt_5 (by decide) ?_
      refine z_icmp_lt 12 hf dX10_streetAt_7 (by decide) (fun hf => ?_) (fun hf => ?_)
      · refine z_iload_n 1 dX10_streetAt_12 rfl rfl ?_
        refine z_istore [(4, .int l1), (0, .ref l0), (1, .int l1), (2, .int l2), (3, .int l3)] dX10_streetAt_13 (by decide) rfl ?_
        refine z_aload_n 1 dX10_streetAt_15 rfl rfl ?_
        refine z_iload 0 dX10_streetAt_16 rfl ?_
        refine z_iload_n 3 dX10_streetAt_18 rfl rfl ?_
        obtain ⟨v1, ev1, hf⟩ := ob hf
        refine z_cVi (ci := 10) (T := TX10) (N := 6) (As := [.int l1, .int l2]) (rest := []) (zm_X10_nextStreet ev1).2 (zm_X10_nextStreet ev1).1 (by decide) rfl (Or.inl rfl) mw_18_20 mw_18_21 mw_18_22 mw_1_23 mw_18_23 yk_X10_nextStreet (by decide) (by decide) rfl (Nat.le_of_ble_eq_true rfl) rfl dX10_streetAt_19 ?_
        refine z_istore [(5, .int v1), (4, .int l1), (0, .ref l0), (1, .int l1), (2, .int l2), (3, .int l3)] dX10_streetAt_22 (by decide) rfl ?_
        refine z_iconst 0 0 dX10_streetAt_24 (by decide) ?_
        refine z_istore [(6, .int (0 : Int32)), (5, .int v1), (4, .int l1), (0, .ref l0), (1, .int l1), (2, .int l2), (3, .int l3)] dX10_streetAt_25 (by decide) rfl ?_
        refine z_lv [(0, .ref l0), (2, .int l2), (3, .int l3), (4, .int l1), (5, .int v1), (6, .int (0 : Int32))] [3, 5, 6, 2, 1, 0] rfl ?_
        exact zb_X10_streetAt_27 hE N _ _ _ _ _ _ hf
      · refine z_lv [] [] rfl ?_
        exact zb_X10_streetAt_10 hE hf
  · cases hf
set_option maxRecDepth 20000 in
theorem zm_X11_answer {N : Nat} {sh : Sh} {d : Dt} {l0 : Nat} {l1 : Int32} {r : Int32 × Dt} (hf : f_X11_answer N sh l0 l1 d = some r) : isO sh l0 11 ∧ ∀ (l : Launch) (G : GG), Mt l G yX11_answer cX11_answer 2 (some .int) 1 [.ref l0, .int l1] (sh, d) (some (.int r.1)) (sh, r.2) := by
  have hf0 := hf
  unfold f_X11_answer at hf
  refine ite_d hf (fun hO hf => ?_) (fun _ hf => ?_)
  · refine ⟨hO, fun l G => mt_of (Or.inl (by decide)) (Nat.le_of_ble_eq_true rfl) Le.rf (fun E hE => ?_)⟩
    show Z E yX11_answer cX11_answer 2 (some .int) 1 (sh, d) 0 [(0, .ref l0), (1, .int l1)] []
    refine z_aload_n 0 dX11_answer_0 rfl rfl ?_
    refine z_gP (ci := 11) (k := 0) (C := RX11) (T := TX11) (N := 14) rfl inlX11 (by decide) mw_1_15 (fun _ _ _ _ h9 => h9) hf (by decide) rfl dX11_answer_1  (fun v1 hf => ?_)
    refine z_iconst 0 0 dX11_answer_4 (by decide) ?_
    refine z_pI (ci := 2) (k := 1) (C := RX2) (T := TX2) (N := 4) rfl inlX2 (by decide) mw_8_2 (fun _ _ _ _ h9 => h9) tyX2 tyX2_ok nmX2 rfl hf (Or.inl (by decide)) rfl rfl rfl dX11_answer_5  (fun d2 hf => ?_)
    refine z_iload_n 1 dX11_answer_8 rfl rfl ?_
    cases hf
    exact z_ireturn hE rfl dX11_answer_9
  · cases hf
set_option maxRecDepth 20000 in
theorem zb_X8_has_17 {N : Nat} {sh : Sh} {d : Dt} {r : Int32} {E : EV} (hE : TG E (some (.int r)) (sh, d))  {t0 : Int32} (hf : f_X8_has_17 N sh t0 d = some r) : Z E yX8_has cX8_has 2 (some .boolean) 1 (sh, d) 17 [] [.int t0] := by
  unfold f_X8_has_17 at hf
  obtain ⟨v2, ev2, hg⟩ := ob hf
  obtain ⟨rfl, hbv2⟩ := o_bool_spec ev2
  cases hg
  exact z_zreturn hE rfl hbv2 dX8_has_17
set_option maxRecDepth 20000 in
theorem zb_X8_has_16 {N : Nat} {sh : Sh} {d : Dt} {r : Int32} {E : EV} (hE : TG E (some (.int r)) (sh, d))   (hf : f_X8_has_16 N sh  d = some r) : Z E yX8_has cX8_has 2 (some .boolean) 1 (sh, d) 16 [] [] := by
  unfold f_X8_has_16 at hf
  refine z_iconst 0 0 dX8_has_16 (by decide) ?_
  exact zb_X8_has_17 hE hf
set_option maxRecDepth 20000 in
theorem zm_X8_has {N : Nat} {sh : Sh} {d : Dt} {l0 : Nat} {l1 : Int32} {r : Int32} (hf : f_X8_has N sh l0 l1 d = some r) : isO sh l0 8 ∧ ∀ (l : Launch) (G : GG), Mt l G yX8_has cX8_has 2 (some .boolean) 1 [.ref l0, .int l1] (sh, d) (some (.int r)) (sh, d) := by
  have hf0 := hf
  unfold f_X8_has at hf
  refine ite_d hf (fun hO hf => ?_) (fun _ hf => ?_)
  · refine ⟨hO, fun l G => mt_of (Or.inl (by decide)) (Nat.le_of_ble_eq_true rfl) Le.rf (fun E hE => ?_)⟩
    show Z E yX8_has cX8_has 2 (some .boolean) 1 (sh, d) 0 [(0, .ref l0), (1, .int l1)] []
    refine z_iload_n 1 dX8_has_0 rfl rfl ?_
    refine z_if_lt 16 hf dX8_has_1 (by decide) (fun hf => ?_) (fun hf => ?_)
    · refine z_lv [] [] rfl ?_
      exact zb_X8_has_16 hE hf
    · refine z_iload_n 1 dX8_has_4 rfl rfl ?_
      refine z_aload_n 0 dX8_has_5 rfl rfl ?_
      refine z_gI (ci := 8) (k := 1) (C := RX8) (T := TX8) (N := 2) rfl inlX8 (by decide) mw_4_2 (fun _ _ _ _ h9 => h9) hf (by decide) rfl dX8_has_6  (fun v1 hf => ?_)
      refine z_icmp_ge 16 hf dX8_has_9 (by decide) (fun hf => ?_) (fun hf => ?_)
      · refine z_lv [] [] rfl ?_
        exact zb_X8_has_16 hE hf
      · refine z_iconst 1 1 dX8_has_12 (by decide) ?_
        refine z_goto 17 dX8_has_13 (by decide) ?_
        refine z_lv [] [] rfl ?_
        exact zb_X8_has_17 hE hf
  · cases hf
set_option maxRecDepth 20000 in
theorem zb_X2_find_44 {N : Nat} {sh : Sh} {r : Dt} {E : EV} (hE : TG E none (sh, r))   {d : Dt} (hf : f_X2_find_44 N sh  d = some r) : Z E yX2_find cX2_find 2 none 1 (sh, d) 44 [] [] := by
  unfold f_X2_find_44 at hf
  cases hf
  exact z_return hE rfl dX2_find_44
set_option maxRecDepth 20000 in
theorem zm_X2_find {N : Nat} {sh : Sh} {d : Dt} {l0 : Nat} {l1 : Int32} {r : Dt} (hf : f_X2_find N sh l0 l1 d = some r) : isO sh l0 2 ∧ ∀ (l : Launch) (G : GG), Mt l G yX2_find cX2_find 2 none 1 [.ref l0, .int l1] (sh, d) none (sh, r) := by
  have hf0 := hf
  unfold f_X2_find at hf
  refine ite_d hf (fun hO hf => ?_) (fun _ hf => ?_)
  · refine ⟨hO, fun l G => mt_of (Or.inl (by decide)) (Nat.le_of_ble_eq_true rfl) Le.rf (fun E hE => ?_)⟩
    show Z E yX2_find cX2_find 2 none 1 (sh, d) 0 [(0, .ref l0), (1, .int l1)] []
    refine z_iload_n 1 dX2_find_0 rfl rfl ?_
    refine z_bipush (-9) (-9) dX2_find_1 (by decide) ?_
    refine z_icmp_ne 19 hf dX2_find_3 (by decide) (fun hf => ?_) (fun hf => ?_)
    · refine z_iload_n 1 dX2_find_19 rfl rfl ?_
      refine z_bipush (-4) (-4) dX2_find_20 (by decide) ?_
      refine z_icmp_gt 44 hf dX2_find_22 (by decide) (fun hf => ?_) (fun hf => ?_)
      · refine z_lv [] [] rfl ?_
        exact zb_X2_find_44 hE hf
      · refine z_iload_n 1 dX2_find_25 rfl rfl ?_
        refine z_bipush (-7) (-7) dX2_find_26 (by decide) ?_
        refine z_icmp_lt 44 hf dX2_find_28 (by decide) (fun hf => ?_) (fun hf => ?_)
        · refine z_lv [] [] rfl ?_
          exact zb_X2_find_44 hE hf
        · refine z_aload_n 0 dX2_find_31 rfl rfl ?_
          refine z_gP (ci := 2) (k := 0) (C := RX2) (T := TX2) (N := 4) rfl inlX2 (by decide) mw_3_2 (fun _ _ _ _ h9 => h9) hf (by decide) rfl dX2_find_32  (fun v1 hf => ?_)
          refine z_bipush (-4) (-4) dX2_find_35 (by decide) ?_
          refine z_iload_n 1 dX2_find_37 rfl rfl ?_
          refine z_isub dX2_find_38 ?_
          refine z_dup2_11 dX2_find_39 rfl rfl ?_
          refine z_aI hf dX2_find_40  (fun v2 hf => ?_)
          refine z_iconst 1 1 dX2_find_41 (by decide) ?_
          refine z_iadd dX2_find_42 ?_
          refine z_sI hf dX2_find_43  (fun d3 hf => ?_)
          refine z_lv [] [] rfl ?_
          exact zb_X2_find_44 hE hf
    · refine z_aload_n 0 dX2_find_6 rfl rfl ?_
      refine z_gP (ci := 2) (k := 0) (C := RX2) (T := TX2) (N := 4) rfl inlX2 (by decide) mw_3_2 (fun _ _ _ _ h9 => h9) hf (by decide) rfl dX2_find_7  (fun v4 hf => ?_)
      refine z_iconst 4 4 dX2_find_10 (by decide) ?_
      refine z_dup2_11 dX2_find_11 rfl rfl ?_
      refine z_aI hf dX2_find_12  (fun v5 hf => ?_)
      refine z_iconst 1 1 dX2_find_13 (by decide) ?_
      refine z_iadd dX2_find_14 ?_
      refine z_sI hf dX2_find_15  (fun d6 hf => ?_)
      refine z_goto 44 dX2_find_16 (by decide) ?_
      refine z_lv [] [] rfl ?_
      exact zb_X2_find_44 hE hf
  · cases hf
set_option maxRecDepth 20000 in
theorem zm_X11_refuse {N : Nat} {sh : Sh} {d : Dt} {l0 : Nat} {l1 : Int32} {r : Int32 × Dt} (hf : f_X11_refuse N sh l0 l1 d = some r) : isO sh l0 11 ∧ ∀ (l : Launch) (G : GG), Mt l G yX11_refuse cX11_refuse 2 (some .int) 2 [.ref l0, .int l1] (sh, d) (some (.int r.1)) (sh, r.2) := by
  have hf0 := hf
  unfold f_X11_refuse at hf
  refine ite_d hf (fun hO hf => ?_) (fun _ hf => ?_)
  · refine ⟨hO, fun l G => mt_of (Or.inl (by decide)) (Nat.le_of_ble_eq_true rfl) Le.rf (fun E hE => ?_)⟩
    show Z E yX11_refuse cX11_refuse 2 (some .int) 2 (sh, d) 0 [(0, .ref l0), (1, .int l1)] []
    refine z_aload_n 0 dX11_refuse_0 rfl rfl ?_
    refine z_gP (ci := 11) (k := 0) (C := RX11) (T := TX11) (N := 14) rfl inlX11 (by decide) mw_1_15 (fun _ _ _ _ h9 => h9) hf (by decide) rfl dX11_refuse_1  (fun v1 hf => ?_)
    refine z_iload_n 1 dX11_refuse_4 rfl rfl ?_
    refine z_pI (ci := 2) (k := 1) (C := RX2) (T := TX2) (N := 4) rfl inlX2 (by decide) mw_8_2 (fun _ _ _ _ h9 => h9) tyX2 tyX2_ok nmX2 rfl hf (Or.inl (by decide)) rfl rfl rfl dX11_refuse_5  (fun d2 hf => ?_)
    refine z_aload_n 0 dX11_refuse_8 rfl rfl ?_
    refine z_gP (ci := 11) (k := 0) (C := RX11) (T := TX11) (N := 14) rfl inlX11 (by decide) mw_1_15 (fun _ _ _ _ h9 => h9) hf (by decide) rfl dX11_refuse_9  (fun v3 hf => ?_)
    refine z_iload_n 1 dX11_refuse_12 rfl rfl ?_
    obtain ⟨v4, ev4, hf⟩ := ob hf
    refine z_cVv (ci := 2) (T := TX2) (N := 4) (As := [.int l1]) (rest := []) (zm_X2_find ev4).2 (zm_X2_find ev4).1 (by decide) rfl (Or.inl rfl) mw_8_3 mw_8_4 mw_8_5 mw_1_14 mw_8_6 yk_X2_find (by decide) (by decide) rfl (Nat.le_of_ble_eq_true rfl) rfl dX11_refuse_13 ?_
    refine z_iload_n 1 dX11_refuse_16 rfl rfl ?_
    cases hf
    exact z_ireturn hE rfl dX11_refuse_17
  · cases hf
set_option maxRecDepth 20000 in
theorem zb_X1_isOut_19 {N : Nat} {sh : Sh} {d : Dt} {r : Int32} {E : EV} (hE : TG E (some (.int r)) (sh, d))  {t0 : Int32} (hf : f_X1_isOut_19 N sh t0 d = some r) : Z E yX1_isOut cX1_isOut 2 (some .boolean) 2 (sh, d) 19 [] [.int t0] := by
  unfold f_X1_isOut_19 at hf
  obtain ⟨v3, ev3, hg⟩ := ob hf
  obtain ⟨rfl, hbv3⟩ := o_bool_spec ev3
  cases hg
  exact z_zreturn hE rfl hbv3 dX1_isOut_19
set_option maxRecDepth 20000 in
theorem zm_X1_isOut {N : Nat} {sh : Sh} {d : Dt} {l0 : Nat} {l1 : Int32} {r : Int32} (hf : f_X1_isOut N sh l0 l1 d = some r) : isO sh l0 1 ∧ ∀ (l : Launch) (G : GG), Mt l G yX1_isOut cX1_isOut 2 (some .boolean) 2 [.ref l0, .int l1] (sh, d) (some (.int r)) (sh, d) := by
  have hf0 := hf
  unfold f_X1_isOut at hf
  refine ite_d hf (fun hO hf => ?_) (fun _ hf => ?_)
  · refine ⟨hO, fun l G => mt_of (Or.inl (by decide)) (Nat.le_of_ble_eq_true rfl) Le.rf (fun E hE => ?_)⟩
    show Z E yX1_isOut cX1_isOut 2 (some .boolean) 2 (sh, d) 0 [(0, .ref l0), (1, .int l1)] []
    refine z_aload_n 0 dX1_isOut_0 rfl rfl ?_
    refine z_gP (ci := 1) (k := 3) (C := RX1) (T := TX1) (N := 8) rfl inlX1 (by decide) mw_3_16 (fun _ _ _ _ h9 => h9) hf (by decide) rfl dX1_isOut_1  (fun v1 hf => ?_)
    refine z_iload_n 1 dX1_isOut_4 rfl rfl ?_
    refine z_bipush 6 6 dX1_isOut_5 (by decide) ?_
    obtain ⟨v2, ev2, hf⟩ := ob hf
    refine z_cVi (ci := 8) (T := TX8) (N := 2) (As := [.int l1, .int (6 : Int32)]) (rest := []) (zm_X8_get ev2).2 (zm_X8_get ev2).1 (by decide) rfl (Or.inl rfl) mw_10_10 mw_10_11 mw_10_12 mw_3_13 mw_10_13 yk_X8_get (by decide) (by decide) rfl (Nat.le_of_ble_eq_true rfl) rfl dX1_isOut_7 ?_
    refine z_iconst (-1) (-1) dX1_isOut_10 (by decide) ?_
    refine z_icmp_ne 18 hf dX1_isOut_11 (by decide) (fun hf => ?_) (fun hf => ?_)
    · refine z_iconst 0 0 dX1_isOut_18 (by decide) ?_
      refine z_lv [] [] rfl ?_
      exact zb_X1_isOut_19 hE hf
    · refine z_iconst 1 1 dX1_isOut_14 (by decide) ?_
      refine z_goto 19 dX1_isOut_15 (by decide) ?_
      refine z_lv [] [] rfl ?_
      exact zb_X1_isOut_19 hE hf
  · cases hf
set_option maxRecDepth 20000 in
theorem zb_X11_asks_37 {N : Nat} {sh : Sh} {r : Int32 × Dt} {E : EV} (hE : TG E (some (.int r.1)) (sh, r.2))  {l0 : Nat} {d : Dt} (hf : f_X11_asks_37 N sh l0 d = some r) : Z E yX11_asks cX11_asks 6 (some .int) 4 (sh, d) 37 [(0, .ref l0)] [] := by
  unfold f_X11_asks_37 at hf
  refine z_aload_n 0 dX11_asks_37 rfl rfl ?_
  refine z_bipush (-2) (-2) dX11_asks_38 (by decide) ?_
  obtain ⟨v30, ev30, hf⟩ := ob hf
  refine z_cVi (ci := 11) (T := TX11) (N := 14) (As := [.int (-2 : Int32)]) (rest := []) (zm_X11_refuse ev30).2 (zm_X11_refuse ev30).1 (by decide) rfl (Or.inl rfl) mw_7_22 mw_7_23 mw_8_0 mw_1_2 mw_8_1 yk_X11_refuse (by decide) (by decide) rfl (Nat.le_of_ble_eq_true rfl) rfl dX11_asks_40 ?_
  cases hf
  exact z_ireturn hE rfl dX11_asks_43
set_option maxRecDepth 20000 in
theorem zb_X11_asks_178 {N : Nat} {sh : Sh} {r : Int32 × Dt} {E : EV} (hE : TG E (some (.int r.1)) (sh, r.2))  {t0 : Int32} {d : Dt} (hf : f_X11_asks_178 N sh t0 d = some r) : Z E yX11_asks cX11_asks 6 (some .int) 4 (sh, d) 178 [] [.int t0] := by
  unfold f_X11_asks_178 at hf
  cases hf
  exact z_ireturn hE rfl dX11_asks_178
set_option maxRecDepth 20000 in
theorem zm_X11_asks {N : Nat} {sh : Sh} {d : Dt} {l0 : Nat} {l1 : Int32} {l2 : Int32} {l3 : Int32} {r : Int32 × Dt} (hf : f_X11_asks N sh l0 l1 l2 l3 d = some r) : isO sh l0 11 ∧ ∀ (l : Launch) (G : GG), Mt l G yX11_asks cX11_asks 6 (some .int) 4 [.ref l0, .int l1, .int l2, .int l3] (sh, d) (some (.int r.1)) (sh, r.2) := by
  have hf0 := hf
  unfold f_X11_asks at hf
  refine ite_d hf (fun hO hf => ?_) (fun _ hf => ?_)
  · refine ⟨hO, fun l G => mt_of (Or.inl (by decide)) (Nat.le_of_ble_eq_true rfl) Le.rf (fun E hE => ?_)⟩
    show Z E yX11_asks cX11_asks 6 (some .int) 4 (sh, d) 0 [(0, .ref l0), (1, .int l1), (2, .int l2), (3, .int l3)] []
    refine z_aload_n 0 dX11_asks_0 rfl rfl ?_
    refine z_gP (ci := 11) (k := 1) (C := RX11) (T := TX11) (N := 14) rfl inlX11 (by decide) mw_1_19 (fun _ _ _ _ h9 => h9) hf (by decide) rfl dX11_asks_1  (fun v1 hf => ?_)
    refine z_gP (ci := 1) (k := 3) (C := RX1) (T := TX1) (N := 8) rfl inlX1 (by decide) mw_29_16 (fun _ _ _ _ h9 => h9) hf (by decide) rfl dX11_asks_4  (fun v2 hf => ?_)
    refine z_iload_n 1 dX11_asks_7 rfl rfl ?_
    obtain ⟨v3, ev3, hf⟩ := ob hf
    refine z_cVi (ci := 8) (T := TX8) (N := 2) (As := [.int l1]) (rest := []) (zm_X8_has ev3).2 (zm_X8_has ev3).1 (by decide) rfl (Or.inl rfl) mw_13_22 mw_13_23 mw_14_0 mw_3_13 mw_14_1 yk_X8_has (by decide) (by decide) rfl (Nat.le_of_ble_eq_true rfl) rfl dX11_asks_8 ?_
    refine z_if_eq 37 hf dX11_asks_11 (by decide) (fun hf => ?_) (fun hf => ?_)
    · refine z_lv [(0, .ref l0)] [0] rfl ?_
      exact zb_X11_asks_37 hE hf
    · refine z_aload_n 0 dX11_asks_14 rfl rfl ?_
      refine z_gP (ci := 11) (k := 1) (C := RX11) (T := TX11) (N := 14) rfl inlX11 (by decide) mw_1_19 (fun _ _ _ _ h9 => h9) hf (by decide) rfl dX11_asks_15  (fun v4 hf => ?_)
      refine z_gP (ci := 1) (k := 1) (C := RX1) (T := TX1) (N := 8) rfl inlX1 (by decide) mw_12_12 (fun _ _ _ _ h9 => h9) hf (by decide) rfl dX11_asks_18  (fun v5 hf => ?_)
      refine z_iload_n 2 dX11_asks_21 rfl rfl ?_
      obtain ⟨v6, ev6, hf⟩ := ob hf
      refine z_cVi (ci := 8) (T := TX8) (N := 2) (As := [.int l2]) (rest := []) (zm_X8_has ev6).2 (zm_X8_has ev6).1 (by decide) rfl (Or.inl rfl) mw_13_22 mw_13_23 mw_14_0 mw_3_13 mw_14_1 yk_X8_has (by decide) (by decide) rfl (Nat.le_of_ble_eq_true rfl) rfl dX11_asks_22 ?_
      refine z_if_eq 37 hf dX11_asks_25 (by decide) (fun hf => ?_) (fun hf => ?_)
      · refine z_lv [(0, .ref l0)] [0] rfl ?_
        exact zb_X11_asks_37 hE hf
      · refine z_iload_n 3 dX11_asks_28 rfl rfl ?_
        refine z_if_lt 37 hf dX11_asks_29 (by decide) (fun hf => ?_) (fun hf => ?_)
        · refine z_lv [(0, .ref l0)] [0] rfl ?_
          exact zb_X11_asks_37 hE hf
        · refine z_iload_n 3 dX11_asks_32 rfl rfl ?_
          refine z_iconst 3 3 dX11_asks_33 (by decide) ?_
          refine z_icmp_le 44 hf dX11_asks_34 (by decide) (fun hf => ?_) (fun hf => ?_)
          · refine z_aload_n 0 dX11_asks_44 rfl rfl ?_
            refine z_gP (ci := 11) (k := 1) (C := RX11) (T := TX11) (N := 14) rfl inlX11 (by decide) mw_1_19 (fun _ _ _ _ h9 => h9) hf (by decide) rfl dX11_asks_45  (fun v7 hf => ?_)
            refine z_iload_n 1 dX11_asks_48 rfl rfl ?_
            obtain ⟨v8, ev8, hf⟩ := ob hf
            refine z_cVi (ci := 1) (T := TX1) (N := 8) (As := [.int l1]) (rest := []) (zm_X1_isOut ev8).2 (zm_X1_isOut ev8).1 (by decide) rfl (Or.inl rfl) mw_31_22 mw_31_23 mw_32_0 mw_1_18 mw_32_1 yk_X1_isOut (by decide) (by decide) rfl (Nat.le_of_ble_eq_true rfl) rfl dX11_asks_49 ?_
            refine z_if_eq 62 hf dX11_asks_52 (by decide) (fun hf => ?_) (fun hf => ?_)
            · refine z_aload_n 0 dX11_asks_62 rfl rfl ?_
              refine z_gP (ci := 11) (k := 6) (C := RX11) (T := TX11) (N := 14) rfl inlX11 (by decide) mw_2_10 (fun _ _ _ _ h9 => h9) hf (by decide) rfl dX11_asks_63  (fun v9 hf => ?_)
              refine z_iload_n 1 dX11_asks_66 rfl rfl ?_
              refine z_aP hf dX11_asks_67  (fun v10 hf => ?_)
              refine z_astore [(4, .ref v10), (0, .ref l0), (1, .int l1), (2, .int l2), (3, .int l3)] dX11_asks_68 (by decide) rfl ?_
              refine z_iload_n 4 dX11_asks_70 rfl rfl ?_
              refine z_tabc (v := 0) 25 96 hf dX11_asks_71 (by decide) (by decide) rfl (by decide) (fun hf => ?_) (fun n13 hf => ?_)
              · refine z_aload_n 1 dX11_asks_96 rfl rfl ?_
                refine z_aload 0 dX11_asks_97 rfl ?_
                refine z_g6_1 hf mw_34_3 dX11_asks_99  (fun v11 hf => ?_)
                obtain ⟨v12, ev12, hf⟩ := ob hf
                refine z_cVi (ci := 11) (T := TX11) (N := 14) (As := [.int v11]) (rest := []) (zm_X11_answer ev12).2 (zm_X11_answer ev12).1 (by decide) rfl (Or.inl rfl) mw_11_2 mw_11_3 mw_11_4 mw_1_2 mw_11_5 yk_X11_answer (by decide) (by decide) rfl (Nat.le_of_ble_eq_true rfl) rfl dX11_asks_102 ?_
                cases hf
                exact z_ireturn hE rfl dX11_asks_105
              refine z_tabc (v := 1) 35 106 hf dX11_asks_71 (by decide) (by decide) rfl (by decide) (fun hf => ?_) (fun n16 hf => ?_)
              · refine z_aload_n 1 dX11_asks_106 rfl rfl ?_
                refine z_aload 0 dX11_asks_107 rfl ?_
                refine z_g6_2 hf mw_34_4 dX11_asks_109  (fun v14 hf => ?_)
                obtain ⟨v15, ev15, hf⟩ := ob hf
                refine z_cVi (ci := 11) (T := TX11) (N := 14) (As := [.int v14]) (rest := []) (zm_X11_answer ev15).2 (zm_X11_answer ev15).1 (by decide) rfl (Or.inl rfl) mw_11_2 mw_11_3 mw_11_4 mw_1_2 mw_11_5 yk_X11_answer (by decide) (by decide) rfl (Nat.le_of_ble_eq_true rfl) rfl dX11_asks_112 ?_
                cases hf
                exact z_ireturn hE rfl dX11_asks_115
              refine z_tabc (v := 2) 45 116 hf dX11_asks_71 (by decide) (by decide) rfl (by decide) (fun hf => ?_) (fun n22 hf => ?_)
              · refine z_aload_n 1 dX11_asks_116 rfl rfl ?_
                refine z_aload 0 dX11_asks_117 rfl ?_
                refine z_aload_n 1 dX11_asks_119 rfl rfl ?_
                refine z_gP (ci := 11) (k := 1) (C := RX11) (T := TX11) (N := 14) rfl inlX11 (by decide) mw_1_19 (fun _ _ _ _ h9 => h9) hf (by decide) rfl dX11_asks_120  (fun v17 hf => ?_)
                refine z_gP (ci := 1) (k := 1) (C := RX1) (T := TX1) (N := 8) rfl inlX1 (by decide) mw_12_12 (fun _ _ _ _ h9 => h9) hf (by decide) rfl dX11_asks_123  (fun v18 hf => ?_)
                refine z_iload_n 3 dX11_asks_126 rfl rfl ?_
                refine z_bipush 6 6 dX11_asks_127 (by decide) ?_
                obtain ⟨v19, ev19, hf⟩ := ob hf
                refine z_cVi (ci := 8) (T := TX8) (N := 2) (As := [.int l2, .int (6 : Int32)]) (rest := [.ref v10, .ref l0]) (zm_X8_get ev19).2 (zm_X8_get ev19).1 (by decide) rfl (Or.inl rfl) mw_14_2 mw_10_11 mw_10_12 mw_3_13 mw_10_13 yk_X8_get (by decide) (by decide) rfl (Nat.le_of_ble_eq_true rfl) rfl dX11_asks_129 ?_
                obtain ⟨v20, ev20, hf⟩ := ob hf
                refine z_vtakes (rest := [.ref l0]) ev20 mw_34_5 (by decide) (Nat.le_of_ble_eq_true rfl) dX11_asks_132 ?_
                obtain ⟨v21, ev21, hf⟩ := ob hf
                refine z_cVi (ci := 11) (T := TX11) (N := 14) (As := [.int v20.1]) (rest := []) (zm_X11_answer ev21).2 (zm_X11_answer ev21).1 (by decide) rfl (Or.inl rfl) mw_11_2 mw_11_3 mw_11_4 mw_1_2 mw_11_5 yk_X11_answer (by decide) (by decide) rfl (Nat.le_of_ble_eq_true rfl) rfl dX11_asks_135 ?_
                cases hf
                exact z_ireturn hE rfl dX11_asks_138
              refine z_tabd 139 dX11_asks_71 (by have qn13 := tab_out 0 (by decide) n13; have qn16 := tab_out 1 (by decide) n16; have qn22 := tab_out 2 (by decide) n22; omega) (by decide) ?_
              refine z_aload 0 dX11_asks_139 rfl ?_
              refine z_aload_n 1 dX11_asks_141 rfl rfl ?_
              refine z_gP (ci := 11) (k := 1) (C := RX11) (T := TX11) (N := 14) rfl inlX11 (by decide) mw_1_19 (fun _ _ _ _ h9 => h9) hf (by decide) rfl dX11_asks_142  (fun v23 hf => ?_)
              refine z_gP (ci := 1) (k := 1) (C := RX1) (T := TX1) (N := 8) rfl inlX1 (by decide) mw_12_12 (fun _ _ _ _ h9 => h9) hf (by decide) rfl dX11_asks_145  (fun v24 hf => ?_)
              refine z_iload_n 3 dX11_asks_148 rfl rfl ?_
              refine z_iconst 0 0 dX11_asks_149 (by decide) ?_
              obtain ⟨v25, ev25, hf⟩ := ob hf
              refine z_cVi (ci := 8) (T := TX8) (N := 2) (As := [.int l2, .int (0 : Int32)]) (rest := [.ref v10]) (zm_X8_get ev25).2 (zm_X8_get ev25).1 (by decide) rfl (Or.inl rfl) mw_14_2 mw_10_11 mw_10_12 mw_3_13 mw_10_13 yk_X8_get (by decide) (by decide) rfl (Nat.le_of_ble_eq_true rfl) rfl dX11_asks_150 ?_
              obtain ⟨v26, ev26, hf⟩ := ob hf
              refine z_vpasses (rest := []) ev26 mw_35_15 (by decide) (Nat.le_of_ble_eq_true rfl) dX11_asks_153 ?_
              refine z_istore [(5, .int v26.1), (4, .ref v10), (0, .ref l0), (1, .int l1), (2, .int l2), (3, .int l3)] dX11_asks_156 (by decide) rfl ?_
              refine z_iload 0 dX11_asks_158 rfl ?_
              refine z_if_ne 172 hf dX11_asks_160 (by decide) (fun hf => ?_) (fun hf => ?_)
              · refine z_aload_n 2 dX11_asks_172 rfl rfl ?_
                refine z_iload 0 dX11_asks_173 rfl ?_
                obtain ⟨v27, ev27, hf⟩ := ob hf
                refine z_cVi (ci := 11) (T := TX11) (N := 14) (As := [.int v26.1]) (rest := []) (zm_X11_answer ev27).2 (zm_X11_answer ev27).1 (by decide) rfl (Or.inl rfl) mw_11_2 mw_11_3 mw_11_4 mw_1_2 mw_11_5 yk_X11_answer (by decide) (by decide) rfl (Nat.le_of_ble_eq_true rfl) rfl dX11_asks_175 ?_
                refine z_lv [] [] rfl ?_
                exact zb_X11_asks_178 hE hf
              · refine z_aload_n 2 dX11_asks_163 rfl rfl ?_
                refine z_bipush (-9) (-9) dX11_asks_164 (by decide) ?_
                obtain ⟨v28, ev28, hf⟩ := ob hf
                refine z_cVi (ci := 11) (T := TX11) (N := 14) (As := [.int (-9 : Int32)]) (rest := []) (zm_X11_refuse ev28).2 (zm_X11_refuse ev28).1 (by decide) rfl (Or.inl rfl) mw_7_22 mw_7_23 mw_8_0 mw_1_2 mw_8_1 yk_X11_refuse (by decide) (by decide) rfl (Nat.le_of_ble_eq_true rfl) rfl dX11_asks_166 ?_
                refine z_goto 178 dX11_asks_169 (by decide) ?_
                refine z_lv [] [] rfl ?_
                exact zb_X11_asks_178 hE hf
            · refine z_aload_n 0 dX11_asks_55 rfl rfl ?_
              refine z_bipush (-4) (-4) dX11_asks_56 (by decide) ?_
              obtain ⟨v29, ev29, hf⟩ := ob hf
              refine z_cVi (ci := 11) (T := TX11) (N := 14) (As := [.int (-4 : Int32)]) (rest := []) (zm_X11_refuse ev29).2 (zm_X11_refuse ev29).1 (by decide) rfl (Or.inl rfl) mw_7_22 mw_7_23 mw_8_0 mw_1_2 mw_8_1 yk_X11_refuse (by decide) (by decide) rfl (Nat.le_of_ble_eq_true rfl) rfl dX11_asks_58 ?_
              cases hf
              exact z_ireturn hE rfl dX11_asks_61
          · refine z_lv [(0, .ref l0)] [0] rfl ?_
            exact zb_X11_asks_37 hE hf
  · cases hf
set_option maxRecDepth 20000 in
theorem zb_X11_at_9 {N : Nat} {sh : Sh} {r : Int32 × Dt} {E : EV} (hE : TG E (some (.int r.1)) (sh, r.2))  {l0 : Nat} {d : Dt} (hf : f_X11_at_9 N sh l0 d = some r) : Z E yX11_at cX11_at 3 (some .int) 3 (sh, d) 9 [(0, .ref l0)] [] := by
  unfold f_X11_at_9 at hf
  refine z_aload_n 0 dX11_at_9 rfl rfl ?_
  refine z_bipush (-2) (-2) dX11_at_10 (by decide) ?_
  obtain ⟨v7, ev7, hf⟩ := ob hf
  refine z_cVi (ci := 11) (T := TX11) (N := 14) (As := [.int (-2 : Int32)]) (rest := []) (zm_X11_refuse ev7).2 (zm_X11_refuse ev7).1 (by decide) rfl (Or.inl rfl) mw_7_22 mw_7_23 mw_8_0 mw_1_2 mw_8_1 yk_X11_refuse (by decide) (by decide) rfl (Nat.le_of_ble_eq_true rfl) rfl dX11_at_12 ?_
  cases hf
  exact z_ireturn hE rfl dX11_at_15
set_option maxRecDepth 20000 in
theorem zb_X11_at_47 {N : Nat} {sh : Sh} {r : Int32 × Dt} {E : EV} (hE : TG E (some (.int r.1)) (sh, r.2))  {t0 : Nat} {t1 : Int32} {d : Dt} (hf : f_X11_at_47 N sh t0 t1 d = some r) : Z E yX11_at cX11_at 3 (some .int) 3 (sh, d) 47 [] [.int t1, .ref t0] := by
  unfold f_X11_at_47 at hf
  obtain ⟨v8, ev8, hf⟩ := ob hf
  refine z_cVi (ci := 11) (T := TX11) (N := 14) (As := [.int t1]) (rest := []) (zm_X11_answer ev8).2 (zm_X11_answer ev8).1 (by decide) rfl (Or.inl rfl) mw_11_2 mw_11_3 mw_11_4 mw_1_2 mw_11_5 yk_X11_answer (by decide) (by decide) rfl (Nat.le_of_ble_eq_true rfl) rfl dX11_at_47 ?_
  cases hf
  exact z_ireturn hE rfl dX11_at_50
set_option maxRecDepth 20000 in
theorem zm_X11_at {N : Nat} {sh : Sh} {d : Dt} {l0 : Nat} {l1 : Int32} {l2 : Int32} {r : Int32 × Dt} (hf : f_X11_at N sh l0 l1 l2 d = some r) : isO sh l0 11 ∧ ∀ (l : Launch) (G : GG), Mt l G yX11_at cX11_at 3 (some .int) 3 [.ref l0, .int l1, .int l2] (sh, d) (some (.int r.1)) (sh, r.2) := by
  have hf0 := hf
  unfold f_X11_at at hf
  refine ite_d hf (fun hO hf => ?_) (fun _ hf => ?_)
  · refine ⟨hO, fun l G => mt_of (Or.inl (by decide)) (Nat.le_of_ble_eq_true rfl) Le.rf (fun E hE => ?_)⟩
    show Z E yX11_at cX11_at 3 (some .int) 3 (sh, d) 0 [(0, .ref l0), (1, .int l1), (2, .int l2)] []
    refine z_iload_n 2 dX11_at_0 rfl rfl ?_
    refine z_if_lt 9 hf dX11_at_1 (by decide) (fun hf => ?_) (fun hf => ?_)
    · refine z_lv [(0, .ref l0)] [0] rfl ?_
      exact zb_X11_at_9 hE hf
    · refine z_iload_n 2 dX11_at_4 rfl rfl ?_
      refine z_iconst 4 4 dX11_at_5 (by decide) ?_
      refine z_icmp_lt 16 hf dX11_at_6 (by decide) (fun hf => ?_) (fun hf => ?_)
      · refine z_aload_n 0 dX11_at_16 rfl rfl ?_
        refine z_aload_n 0 dX11_at_17 rfl rfl ?_
        refine z_gP (ci := 11) (k := 1) (C := RX11) (T := TX11) (N := 14) rfl inlX11 (by decide) mw_1_19 (fun _ _ _ _ h9 => h9) hf (by decide) rfl dX11_at_18  (fun v1 hf => ?_)
        refine z_gP (ci := 1) (k := 4) (C := RX1) (T := TX1) (N := 8) rfl inlX1 (by decide) mw_43_7 (fun _ _ _ _ h9 => h9) hf (by decide) rfl dX11_at_21  (fun v2 hf => ?_)
        refine z_iload_n 1 dX11_at_24 rfl rfl ?_
        obtain ⟨v3, ev3, hf⟩ := ob hf
        refine z_cVi (ci := 8) (T := TX8) (N := 2) (As := [.int l1]) (rest := [.ref l0]) (zm_X8_has ev3).2 (zm_X8_has ev3).1 (by decide) rfl (Or.inl rfl) mw_13_22 mw_13_23 mw_14_0 mw_3_13 mw_14_1 yk_X8_has (by decide) (by decide) rfl (Nat.le_of_ble_eq_true rfl) rfl dX11_at_25 ?_
        refine z_if_eq 46 hf dX11_at_28 (by decide) (fun hf => ?_) (fun hf => ?_)
        · refine z_iconst (-1) (-1) dX11_at_46 (by decide) ?_
          refine z_lv [] [] rfl ?_
          exact zb_X11_at_47 hE hf
        · refine z_aload_n 0 dX11_at_31 rfl rfl ?_
          refine z_gP (ci := 11) (k := 1) (C := RX11) (T := TX11) (N := 14) rfl inlX11 (by decide) mw_1_19 (fun _ _ _ _ h9 => h9) hf (by decide) rfl dX11_at_32  (fun v4 hf => ?_)
          refine z_gP (ci := 1) (k := 4) (C := RX1) (T := TX1) (N := 8) rfl inlX1 (by decide) mw_43_7 (fun _ _ _ _ h9 => h9) hf (by decide) rfl dX11_at_35  (fun v5 hf => ?_)
          refine z_iload_n 1 dX11_at_38 rfl rfl ?_
          refine z_iload_n 2 dX11_at_39 rfl rfl ?_
          obtain ⟨v6, ev6, hf⟩ := ob hf
          refine z_cVi (ci := 8) (T := TX8) (N := 2) (As := [.int l1, .int l2]) (rest := [.ref l0]) (zm_X8_get ev6).2 (zm_X8_get ev6).1 (by decide) rfl (Or.inl rfl) mw_14_2 mw_10_11 mw_10_12 mw_3_13 mw_10_13 yk_X8_get (by decide) (by decide) rfl (Nat.le_of_ble_eq_true rfl) rfl dX11_at_40 ?_
          refine z_goto 47 dX11_at_43 (by decide) ?_
          refine z_lv [] [] rfl ?_
          exact zb_X11_at_47 hE hf
      · refine z_lv [(0, .ref l0)] [0] rfl ?_
        exact zb_X11_at_9 hE hf
  · cases hf
set_option maxRecDepth 20000 in
theorem le_X8_widen_56 {N : Nat} {r : AS}   {s : AS} (hf : f_X8_widen_56 N  s = some r) : Le s r := by
  unfold f_X8_widen_56 at hf
  cases hf
  exact Le.rf
set_option maxRecDepth 20000 in
theorem zb_X8_widen_56 {N : Nat} {r : AS} {E : EV} (hE : TG E none r)    {s : AS} (hf : f_X8_widen_56 N  s = some r) : Z E yX8_widen cX8_widen 3 none 2 s 56 [] [] := by
  unfold f_X8_widen_56 at hf
  cases hf
  exact z_return hE rfl dX8_widen_56
set_option maxRecDepth 20000 in
theorem le_X8_widen_50 {N : Nat} {k2 : Nat → Int32 → Int32 → AS → Option AS} {r : AS} (hk2 : ∀ (l0 : Nat) (l1 : Int32) (l2 : Int32) (s : AS), k2 l0 l1 l2 s = some r → Le s r) {l0 : Nat} {l1 : Int32} {l2 : Int32} {s : AS} (hf : f_X8_widen_50 N k2 l0 l1 l2 s = some r) : Le s r := by
  unfold f_X8_widen_50 at hf
  exact Le.via (hk2 _ _ _ _ hf) rfl
set_option maxRecDepth 20000 in
theorem zb_X8_widen_50 {N : Nat} {k2 : Nat → Int32 → Int32 → AS → Option AS} {r : AS} {E : EV} (hE : TG E none r) (hk2 : ∀ (l0 : Nat) (l1 : Int32) (l2 : Int32) (s : AS), k2 l0 l1 l2 s = some r → Z E yX8_widen cX8_widen 3 none 2 s 2 [(0, .ref l0), (1, .int l1), (2, .int l2)] []) (hq2 : ∀ (l0 : Nat) (l1 : Int32) (l2 : Int32) (s : AS), k2 l0 l1 l2 s = some r → Le s r) {l0 : Nat} {l1 : Int32} {l2 : Int32} {s : AS} (hf : f_X8_widen_50 N k2 l0 l1 l2 s = some r) : Z E yX8_widen cX8_widen 3 none 2 s 50 [(0, .ref l0), (1, .int l1), (2, .int l2)] [] := by
  unfold f_X8_widen_50 at hf
  refine z_iinc [(2, .int (l2 + 1)), (0, .ref l0), (1, .int l1)] 2 (l2 + 1) dX8_widen_50 rfl rfl (by decide) rfl ?_
  refine z_goto 2 dX8_widen_53 (by decide) ?_
  refine z_lv [(0, .ref l0), (1, .int l1), (2, .int (l2 + 1))] [1, 2, 0] rfl ?_
  exact hk2 _ _ _ _ hf
set_option maxRecDepth 20000 in
theorem le_X8_widen_49 {N : Nat} {k2 : Nat → Int32 → Int32 → AS → Option AS} {r : AS} (hk2 : ∀ (l0 : Nat) (l1 : Int32) (l2 : Int32) (s : AS), k2 l0 l1 l2 s = some r → Le s r) {l0 : Nat} {l1 : Int32} {l2 : Int32} {t0 : Nat} {t1 : Int32} {t2 : Nat} {s : AS} (hf : f_X8_widen_49 N k2 l0 l1 l2 t0 t1 t2 s = some r) : Le s r := by
  unfold f_X8_widen_49 at hf
  obtain ⟨d13, -, hf⟩ := ob hf
  exact Le.via (le_X8_widen_50 hk2 hf) rfl
set_option maxRecDepth 20000 in
theorem zb_X8_widen_49 {N : Nat} {k2 : Nat → Int32 → Int32 → AS → Option AS} {r : AS} {E : EV} (hE : TG E none r) (hk2 : ∀ (l0 : Nat) (l1 : Int32) (l2 : Int32) (s : AS), k2 l0 l1 l2 s = some r → Z E yX8_widen cX8_widen 3 none 2 s 2 [(0, .ref l0), (1, .int l1), (2, .int l2)] []) (hq2 : ∀ (l0 : Nat) (l1 : Int32) (l2 : Int32) (s : AS), k2 l0 l1 l2 s = some r → Le s r) {l0 : Nat} {l1 : Int32} {l2 : Int32} {t0 : Nat} {t1 : Int32} {t2 : Nat} {s : AS} (hf : f_X8_widen_49 N k2 l0 l1 l2 t0 t1 t2 s = some r) : Z E yX8_widen cX8_widen 3 none 2 s 49 [(0, .ref l0), (1, .int l1), (2, .int l2)] [.ref t2, .int t1, .ref t0] := by
  unfold f_X8_widen_49 at hf
  refine z_sR hf dX8_widen_49  (fun d13 hf => ?_)
  exact zb_X8_widen_50 hE hk2 hq2 hf
set_option maxRecDepth 20000 in
theorem lg_X8_widen_2 {N : Nat} {r : AS} {k2 : Nat → Int32 → Int32 → AS → Option AS}  (hk2 : ∀ (l0 : Nat) (l1 : Int32) (l2 : Int32) (s : AS), k2 l0 l1 l2 s = some r → Le s r) {l0 : Nat} {l1 : Int32} {l2 : Int32} {s : AS} (hf : g_X8_widen_2 N k2 l0 l1 l2 s = some r) : Le s r := by
  unfold g_X8_widen_2 at hf
  obtain ⟨v1, -, hf⟩ := ob hf
  obtain ⟨v2, -, hf⟩ := ob hf
  refine ite_c hf (fun hf => ?_) (fun hf => ?_)
  · exact Le.via (le_X8_widen_56 hf) rfl
  · obtain ⟨v3, -, hf⟩ := ob hf
    obtain ⟨v4, -, hf⟩ := ob hf
    obtain ⟨v5, -, hf⟩ := ob hf
    refine ite_c hf (fun hf => ?_) (fun hf => ?_)
    · exact Le.via (le_X8_widen_50 hk2 hf) rfl
    · obtain ⟨v6, -, hf⟩ := ob hf
      obtain ⟨v7, -, hf⟩ := ob hf
      obtain ⟨v8, -, hf⟩ := ob hf
      obtain ⟨v9, -, hf⟩ := ob hf
      obtain ⟨v10, -, hf⟩ := ob hf
      obtain ⟨v11, -, hf⟩ := ob hf
      obtain ⟨v12, ev12, hf⟩ := ob hf
      refine Le.of (t := (s.1, s.2)) rfl ((lm_J7_copyOf_59c91 ev12).tr ?_)
      exact Le.via (le_X8_widen_49 hk2 hf) rfl
set_option maxRecDepth 20000 in
theorem le_X8_widen_2 {N : Nat} {r : AS}  : ∀ (n : Nat) (l0 : Nat) (l1 : Int32) (l2 : Int32) (s : AS), f_X8_widen_2 N n l0 l1 l2 s = some r → Le s r := by
  intro n
  induction n with
  | zero => intro l0 l1 l2 s hf; cases hf
  | succ n ih => intro l0 l1 l2 s hf; exact lg_X8_widen_2 ih hf
set_option maxRecDepth 20000 in
theorem zg_X8_widen_2 {N : Nat} {r : AS} {k2 : Nat → Int32 → Int32 → AS → Option AS} {E : EV} (hE : TG E none r)   (hk2 : ∀ (l0 : Nat) (l1 : Int32) (l2 : Int32) (s : AS), k2 l0 l1 l2 s = some r → Z E yX8_widen cX8_widen 3 none 2 s 2 [(0, .ref l0), (1, .int l1), (2, .int l2)] []) (hq2 : ∀ (l0 : Nat) (l1 : Int32) (l2 : Int32) (s : AS), k2 l0 l1 l2 s = some r → Le s r) {l0 : Nat} {l1 : Int32} {l2 : Int32} {s : AS} (hf : g_X8_widen_2 N k2 l0 l1 l2 s = some r) : Z E yX8_widen cX8_widen 3 none 2 s 2 [(0, .ref l0), (1, .int l1), (2, .int l2)] [] := by
  unfold g_X8_widen_2 at hf
  refine z_iload_n 2 dX8_widen_2 rfl rfl ?_
  refine z_aload_n 0 dX8_widen_3 rfl rfl ?_
  refine z_gP (ci := 8) (k := 0) (C := RX8) (T := TX8) (N := 2) rfl inlX8 (by decide) mw_4_4 (fun _ _ _ _ h9 => h9) hf (by decide) rfl dX8_widen_4  (fun v1 hf => ?_)
  refine z_aLen hf dX8_widen_7  (fun v2 hf => ?_)
  refine z_icmp_ge 56 hf dX8_widen_8 (by decide) (fun hf => ?_) (fun hf => ?_)
  · refine z_lv [] [] rfl ?_
    exact zb_X8_widen_56 hE hf
  · refine z_iload_n 1 dX8_widen_11 rfl rfl ?_
    refine z_aload_n 0 dX8_widen_12 rfl rfl ?_
    refine z_gP (ci := 8) (k := 0) (C := RX8) (T := TX8) (N := 2) rfl inlX8 (by decide) mw_4_4 (fun _ _ _ _ h9 => h9) hf (by decide) rfl dX8_widen_13  (fun v3 hf => ?_)
    refine z_iload_n 2 dX8_widen_16 rfl rfl ?_
    refine z_aR hf dX8_widen_17  (fun v4 hf => ?_)
    refine z_aLen hf dX8_widen_18  (fun v5 hf => ?_)
    refine z_icmp_le 50 hf dX8_widen_19 (by decide) (fun hf => ?_) (fun hf => ?_)
    · exact zb_X8_widen_50 hE hk2 hq2 hf
    · refine z_aload_n 0 dX8_widen_22 rfl rfl ?_
      refine z_gP (ci := 8) (k := 0) (C := RX8) (T := TX8) (N := 2) rfl inlX8 (by decide) mw_4_4 (fun _ _ _ _ h9 => h9) hf (by decide) rfl dX8_widen_23  (fun v6 hf => ?_)
      refine z_iload_n 2 dX8_widen_26 rfl rfl ?_
      refine z_aload_n 0 dX8_widen_27 rfl rfl ?_
      refine z_gP (ci := 8) (k := 0) (C := RX8) (T := TX8) (N := 2) rfl inlX8 (by decide) mw_4_4 (fun _ _ _ _ h9 => h9) hf (by decide) rfl dX8_widen_28  (fun v7 hf => ?_)
      refine z_iload_n 2 dX8_widen_31 rfl rfl ?_
      refine z_aR hf dX8_widen_32  (fun v8 hf => ?_)
      refine z_iload_n 1 dX8_widen_33 rfl rfl ?_
      refine z_iconst 2 2 dX8_widen_34 (by decide) ?_
      refine z_aload_n 0 dX8_widen_35 rfl rfl ?_
      refine z_gP (ci := 8) (k := 0) (C := RX8) (T := TX8) (N := 2) rfl inlX8 (by decide) mw_4_4 (fun _ _ _ _ h9 => h9) hf (by decide) rfl dX8_widen_36  (fun v9 hf => ?_)
      refine z_iload_n 2 dX8_widen_39 rfl rfl ?_
      refine z_aR hf dX8_widen_40  (fun v10 hf => ?_)
      refine z_aLen hf dX8_widen_41  (fun v11 hf => ?_)
      refine z_imul dX8_widen_42 ?_
      refine z_max mw_9_9 mw_8_21 mw_8_22 mw_8_23 (by decide) (Nat.le_of_ble_eq_true rfl) dX8_widen_43 ?_
      obtain ⟨v12, ev12, hf⟩ := ob hf
      refine z_cTr (As := [.ref v8, .int (o_max l1 ((2 : Int32) * v11))]) (rest := [.int l2, .ref v6]) (zm_J7_copyOf_59c91 ev12) (Or.inr (tg_le hE (le_X8_widen_49 hq2 hf))) mw_9_10 mw_9_11 mw_4_7 mw_9_12 yk_J7_copyOf_59c91 (by decide) (by decide) rfl (Nat.le_of_ble_eq_true rfl) rfl dX8_widen_46 ?_
      exact zb_X8_widen_49 hE hk2 hq2 hf
set_option maxRecDepth 20000 in
theorem zb_X8_widen_2 {N : Nat} {r : AS} {E : EV} (hE : TG E none r)   : ∀ (n : Nat) (l0 : Nat) (l1 : Int32) (l2 : Int32) (s : AS), f_X8_widen_2 N n l0 l1 l2 s = some r → Z E yX8_widen cX8_widen 3 none 2 s 2 [(0, .ref l0), (1, .int l1), (2, .int l2)] [] := by
  intro n
  induction n with
  | zero => intro l0 l1 l2 s hf; cases hf
  | succ n ih => intro l0 l1 l2 s hf; exact zg_X8_widen_2 hE ih (le_X8_widen_2 n) hf
set_option maxRecDepth 20000 in
theorem lm_X8_widen {N : Nat} {s : AS} {l0 : Nat} {l1 : Int32} {r : AS} (hf : f_X8_widen N l0 l1 s = some r) : Le s r := by
  unfold f_X8_widen at hf
  refine ite_c hf (fun hf => ?_) (fun hf => ?_)
  · skip
    exact Le.via (le_X8_widen_2 N _ _ _ _ hf) rfl
  · cases hf
set_option maxRecDepth 20000 in
theorem zm_X8_widen {N : Nat} {s : AS} {l0 : Nat} {l1 : Int32} {r : AS} (hf : f_X8_widen N l0 l1 s = some r) : isO s.1 l0 8 ∧ ∀ (l : Launch) (G : GG), Mt l G yX8_widen cX8_widen 3 none 2 [.ref l0, .int l1] s none r := by
  have hf0 := hf
  unfold f_X8_widen at hf
  refine ite_d hf (fun hO hf => ?_) (fun _ hf => ?_)
  · refine ⟨hO, fun l G => mt_of (Or.inl (by decide)) (Nat.le_of_ble_eq_true rfl) (lm_X8_widen hf0) (fun E hE => ?_)⟩
    show Z E yX8_widen cX8_widen 3 none 2 s 0 [(0, .ref l0), (1, .int l1)] []
    refine z_iconst 0 0 dX8_widen_0 (by decide) ?_
    refine z_istore_n [(2, .int (0 : Int32)), (0, .ref l0), (1, .int l1)] dX8_widen_1 rfl (by decide) rfl ?_
    refine z_lv [(0, .ref l0), (1, .int l1), (2, .int (0 : Int32))] [1, 2, 0] rfl ?_
    exact zb_X8_widen_2 hE N _ _ _ _ hf
  · cases hf
set_option maxRecDepth 20000 in
theorem le_X8_become_55 {N : Nat} {r : AS}  {l0 : Nat} {l1 : Nat} {s : AS} (hf : f_X8_become_55 N l0 l1 s = some r) : Le s r := by
  unfold f_X8_become_55 at hf
  obtain ⟨v13, -, hf⟩ := ob hf
  obtain ⟨d14, -, hf⟩ := ob hf
  cases hf
  exact Le.rf
set_option maxRecDepth 20000 in
theorem zb_X8_become_55 {N : Nat} {r : AS} {E : EV} (hE : TG E none r)   {l0 : Nat} {l1 : Nat} {s : AS} (hf : f_X8_become_55 N l0 l1 s = some r) : Z E yX8_become cX8_become 3 none 3 s 55 [(0, .ref l0), (1, .ref l1)] [] := by
  unfold f_X8_become_55 at hf
  refine z_aload_n 0 dX8_become_55 rfl rfl ?_
  refine z_aload_n 1 dX8_become_56 rfl rfl ?_
  refine z_gI (ci := 8) (k := 1) (C := RX8) (T := TX8) (N := 2) rfl inlX8 (by decide) mw_4_2 (fun _ _ _ _ h9 => h9) hf (by decide) rfl dX8_become_57  (fun v13 hf => ?_)
  refine z_pI (ci := 8) (k := 1) (C := RX8) (T := TX8) (N := 2) rfl inlX8 (by decide) mw_4_2 (fun _ _ _ _ h9 => h9) tyX8 tyX8_ok nmX8 rfl hf (Or.inl (by decide)) rfl rfl rfl dX8_become_60  (fun d14 hf => ?_)
  cases hf
  exact z_return hE rfl dX8_become_63
set_option maxRecDepth 20000 in
theorem lg_X8_become_10 {N : Nat} {r : AS} {k10 : Nat → Nat → Int32 → AS → Option AS}  (hk10 : ∀ (l0 : Nat) (l1 : Nat) (l2 : Int32) (s : AS), k10 l0 l1 l2 s = some r → Le s r) {l0 : Nat} {l1 : Nat} {l2 : Int32} {s : AS} (hf : g_X8_become_10 N k10 l0 l1 l2 s = some r) : Le s r := by
  unfold g_X8_become_10 at hf
  obtain ⟨v3, -, hf⟩ := ob hf
  obtain ⟨v4, -, hf⟩ := ob hf
  refine ite_c hf (fun hf => ?_) (fun hf => ?_)
  · exact Le.via (le_X8_become_55 hf) rfl
  · obtain ⟨v5, -, hf⟩ := ob hf
    obtain ⟨v6, -, hf⟩ := ob hf
    refine ite_c hf (fun hf => ?_) (fun hf => ?_)
    · exact Le.via (le_X8_become_55 hf) rfl
    · obtain ⟨v7, -, hf⟩ := ob hf
      obtain ⟨v8, -, hf⟩ := ob hf
      obtain ⟨v9, -, hf⟩ := ob hf
      obtain ⟨v10, -, hf⟩ := ob hf
      obtain ⟨v11, -, hf⟩ := ob hf
      obtain ⟨d12, -, hf⟩ := ob hf
      exact Le.via (hk10 _ _ _ _ hf) rfl
set_option maxRecDepth 20000 in
theorem le_X8_become_10 {N : Nat} {r : AS}  : ∀ (n : Nat) (l0 : Nat) (l1 : Nat) (l2 : Int32) (s : AS), f_X8_become_10 N n l0 l1 l2 s = some r → Le s r := by
  intro n
  induction n with
  | zero => intro l0 l1 l2 s hf; cases hf
  | succ n ih => intro l0 l1 l2 s hf; exact lg_X8_become_10 ih hf
set_option maxRecDepth 20000 in
theorem zg_X8_become_10 {N : Nat} {r : AS} {k10 : Nat → Nat → Int32 → AS → Option AS} {E : EV} (hE : TG E none r)   (hk10 : ∀ (l0 : Nat) (l1 : Nat) (l2 : Int32) (s : AS), k10 l0 l1 l2 s = some r → Z E yX8_become cX8_become 3 none 3 s 10 [(0, .ref l0), (1, .ref l1), (2, .int l2)] []) (hq10 : ∀ (l0 : Nat) (l1 : Nat) (l2 : Int32) (s : AS), k10 l0 l1 l2 s = some r → Le s r) {l0 : Nat} {l1 : Nat} {l2 : Int32} {s : AS} (hf : g_X8_become_10 N k10 l0 l1 l2 s = some r) : Z E yX8_become cX8_become 3 none 3 s 10 [(0, .ref l0), (1, .ref l1), (2, .int l2)] [] := by
  unfold g_X8_become_10 at hf
  refine z_iload_n 2 dX8_become_10 rfl rfl ?_
  refine z_aload_n 0 dX8_become_11 rfl rfl ?_
  refine z_gP (ci := 8) (k := 0) (C := RX8) (T := TX8) (N := 2) rfl inlX8 (by decide) mw_4_4 (fun _ _ _ _ h9 => h9) hf (by decide) rfl dX8_become_12  (fun v3 hf => ?_)
  refine z_aLen hf dX8_become_15  (fun v4 hf => ?_)
  refine z_icmp_ge 55 hf dX8_become_16 (by decide) (fun hf => ?_) (fun hf => ?_)
  · refine z_lv [(0, .ref l0), (1, .ref l1)] [0, 1] rfl ?_
    exact zb_X8_become_55 hE hf
  · refine z_iload_n 2 dX8_become_19 rfl rfl ?_
    refine z_aload_n 1 dX8_become_20 rfl rfl ?_
    refine z_gP (ci := 8) (k := 0) (C := RX8) (T := TX8) (N := 2) rfl inlX8 (by decide) mw_4_4 (fun _ _ _ _ h9 => h9) hf (by decide) rfl dX8_become_21  (fun v5 hf => ?_)
    refine z_aLen hf dX8_become_24  (fun v6 hf => ?_)
    refine z_icmp_ge 55 hf dX8_become_25 (by decide) (fun hf => ?_) (fun hf => ?_)
    · refine z_lv [(0, .ref l0), (1, .ref l1)] [0, 1] rfl ?_
      exact zb_X8_become_55 hE hf
    · refine z_aload_n 1 dX8_become_28 rfl rfl ?_
      refine z_gP (ci := 8) (k := 0) (C := RX8) (T := TX8) (N := 2) rfl inlX8 (by decide) mw_4_4 (fun _ _ _ _ h9 => h9) hf (by decide) rfl dX8_become_29  (fun v7 hf => ?_)
      refine z_iload_n 2 dX8_become_32 rfl rfl ?_
      refine z_aR hf dX8_become_33  (fun v8 hf => ?_)
      refine z_iconst 0 0 dX8_become_34 (by decide) ?_
      refine z_aload_n 0 dX8_become_35 rfl rfl ?_
      refine z_gP (ci := 8) (k := 0) (C := RX8) (T := TX8) (N := 2) rfl inlX8 (by decide) mw_4_4 (fun _ _ _ _ h9 => h9) hf (by decide) rfl dX8_become_36  (fun v9 hf => ?_)
      refine z_iload_n 2 dX8_become_39 rfl rfl ?_
      refine z_aR hf dX8_become_40  (fun v10 hf => ?_)
      refine z_iconst 0 0 dX8_become_41 (by decide) ?_
      refine z_aload_n 1 dX8_become_42 rfl rfl ?_
      refine z_gI (ci := 8) (k := 1) (C := RX8) (T := TX8) (N := 2) rfl inlX8 (by decide) mw_4_2 (fun _ _ _ _ h9 => h9) hf (by decide) rfl dX8_become_43  (fun v11 hf => ?_)
      refine z_cpy hf mw_9_4 mw_8_16 mw_8_17 mw_8_18 (by decide) (Nat.le_of_ble_eq_true rfl) dX8_become_46 (fun d12 hf => ?_)
      refine z_iinc [(2, .int (l2 + 1)), (0, .ref l0), (1, .ref l1)] 2 (l2 + 1) dX8_become_49 rfl rfl (by decide) rfl ?_
      refine z_goto 10 dX8_become_52 (by decide) ?_
      refine z_lv [(0, .ref l0), (1, .ref l1), (2, .int (l2 + 1))] [1, 2, 0] rfl ?_
      exact hk10 _ _ _ _ hf
set_option maxRecDepth 20000 in
theorem zb_X8_become_10 {N : Nat} {r : AS} {E : EV} (hE : TG E none r)   : ∀ (n : Nat) (l0 : Nat) (l1 : Nat) (l2 : Int32) (s : AS), f_X8_become_10 N n l0 l1 l2 s = some r → Z E yX8_become cX8_become 3 none 3 s 10 [(0, .ref l0), (1, .ref l1), (2, .int l2)] [] := by
  intro n
  induction n with
  | zero => intro l0 l1 l2 s hf; cases hf
  | succ n ih => intro l0 l1 l2 s hf; exact zg_X8_become_10 hE ih (le_X8_become_10 n) hf
set_option maxRecDepth 20000 in
theorem le_X8_become_8 {N : Nat} {r : AS}  {l0 : Nat} {l1 : Nat} {s : AS} (hf : f_X8_become_8 N l0 l1 s = some r) : Le s r := by
  unfold f_X8_become_8 at hf
  exact Le.via (le_X8_become_10 N _ _ _ _ hf) rfl
set_option maxRecDepth 20000 in
theorem zb_X8_become_8 {N : Nat} {r : AS} {E : EV} (hE : TG E none r)   {l0 : Nat} {l1 : Nat} {s : AS} (hf : f_X8_become_8 N l0 l1 s = some r) : Z E yX8_become cX8_become 3 none 3 s 8 [(0, .ref l0), (1, .ref l1)] [] := by
  unfold f_X8_become_8 at hf
  refine z_iconst 0 0 dX8_become_8 (by decide) ?_
  refine z_istore_n [(2, .int (0 : Int32)), (0, .ref l0), (1, .ref l1)] dX8_become_9 rfl (by decide) rfl ?_
  refine z_lv [(0, .ref l0), (1, .ref l1), (2, .int (0 : Int32))] [1, 2, 0] rfl ?_
  exact zb_X8_become_10 hE N _ _ _ _ hf
set_option maxRecDepth 20000 in
theorem lm_X8_become {N : Nat} {s : AS} {l0 : Nat} {l1 : Nat} {r : AS} (hf : f_X8_become N l0 l1 s = some r) : Le s r := by
  unfold f_X8_become at hf
  refine ite_c hf (fun hf => ?_) (fun hf => ?_)
  · skip
    obtain ⟨v1, -, hf⟩ := ob hf
    obtain ⟨v2, ev2, hf⟩ := ob hf
    refine Le.of (t := (s.1, s.2)) rfl ((lm_X8_widen ev2).tr ?_)
    exact Le.via (le_X8_become_8 hf) rfl
  · cases hf
set_option maxRecDepth 20000 in
theorem zm_X8_become {N : Nat} {s : AS} {l0 : Nat} {l1 : Nat} {r : AS} (hf : f_X8_become N l0 l1 s = some r) : isO s.1 l0 8 ∧ ∀ (l : Launch) (G : GG), Mt l G yX8_become cX8_become 3 none 3 [.ref l0, .ref l1] s none r := by
  have hf0 := hf
  unfold f_X8_become at hf
  refine ite_d hf (fun hO hf => ?_) (fun _ hf => ?_)
  · refine ⟨hO, fun l G => mt_of (Or.inl (by decide)) (Nat.le_of_ble_eq_true rfl) (lm_X8_become hf0) (fun E hE => ?_)⟩
    show Z E yX8_become cX8_become 3 none 3 s 0 [(0, .ref l0), (1, .ref l1)] []
    refine z_aload_n 0 dX8_become_0 rfl rfl ?_
    refine z_aload_n 1 dX8_become_1 rfl rfl ?_
    refine z_gI (ci := 8) (k := 1) (C := RX8) (T := TX8) (N := 2) rfl inlX8 (by decide) mw_4_2 (fun _ _ _ _ h9 => h9) hf (by decide) rfl dX8_become_2  (fun v1 hf => ?_)
    obtain ⟨v2, ev2, hf⟩ := ob hf
    refine z_cVv (ci := 8) (T := TX8) (N := 2) (As := [.int v1]) (rest := []) (zm_X8_widen ev2).2 (zm_X8_widen ev2).1 (by decide) rfl (Or.inr (tg_le hE (le_X8_become_8 hf))) mw_9_5 mw_9_6 mw_9_7 mw_3_13 mw_9_8 yk_X8_widen (by decide) (by decide) rfl (Nat.le_of_ble_eq_true rfl) rfl dX8_become_5 ?_
    exact zb_X8_become_8 hE hf
  · cases hf
set_option maxRecDepth 20000 in
theorem le_X1_widenCells_43 {N : Nat} {r : AS}   {s : AS} (hf : f_X1_widenCells_43 N  s = some r) : Le s r := by
  unfold f_X1_widenCells_43 at hf
  cases hf
  exact Le.rf
set_option maxRecDepth 20000 in
theorem zb_X1_widenCells_43 {N : Nat} {r : AS} {E : EV} (hE : TG E none r)    {s : AS} (hf : f_X1_widenCells_43 N  s = some r) : Z E yX1_widenCells cX1_widenCells 2 none 2 s 43 [] [] := by
  unfold f_X1_widenCells_43 at hf
  cases hf
  exact z_return hE rfl dX1_widenCells_43
set_option maxRecDepth 20000 in
theorem le_X1_widenCells_40 {N : Nat} {r : AS}  {t0 : Nat} {t1 : Nat} {s : AS} (hf : f_X1_widenCells_40 N t0 t1 s = some r) : Le s r := by
  unfold f_X1_widenCells_40 at hf
  obtain ⟨d9, -, hf⟩ := ob hf
  exact Le.via (le_X1_widenCells_43 hf) rfl
set_option maxRecDepth 20000 in
theorem zb_X1_widenCells_40 {N : Nat} {r : AS} {E : EV} (hE : TG E none r)   {t0 : Nat} {t1 : Nat} {s : AS} (hf : f_X1_widenCells_40 N t0 t1 s = some r) : Z E yX1_widenCells cX1_widenCells 2 none 2 s 40 [] [.ref t1, .ref t0] := by
  unfold f_X1_widenCells_40 at hf
  refine z_pQ (ci := 1) (k := 7) (C := RX1) (T := TX1) (N := 8) rfl inlX1 (by decide) mw_3_21 (fun _ _ _ _ h9 => h9) tyX1 tyX1_ok nmX1 rfl hf (by decide) rfl rfl rfl dX1_widenCells_40  (fun d9 hf => ?_)
  exact zb_X1_widenCells_43 hE hf
set_option maxRecDepth 20000 in
theorem lm_X1_widenCells {N : Nat} {s : AS} {l0 : Nat} {r : AS} (hf : f_X1_widenCells N l0 s = some r) : Le s r := by
  unfold f_X1_widenCells at hf
  refine ite_c hf (fun hf => ?_) (fun hf => ?_)
  · skip
    obtain ⟨v1, -, hf⟩ := ob hf
    obtain ⟨v2, -, hf⟩ := ob hf
    obtain ⟨v3, -, hf⟩ := ob hf
    obtain ⟨v4, -, hf⟩ := ob hf
    refine ite_c hf (fun hf => ?_) (fun hf => ?_)
    · exact Le.via (le_X1_widenCells_43 hf) rfl
    · obtain ⟨v5, -, hf⟩ := ob hf
      obtain ⟨v6, -, hf⟩ := ob hf
      obtain ⟨v7, -, hf⟩ := ob hf
      obtain ⟨v8, ev8, hf⟩ := ob hf
      refine Le.of (t := (s.1, s.2)) rfl ((lm_J7_copyOf_c38d5 ev8).tr ?_)
      exact Le.via (le_X1_widenCells_40 hf) rfl
  · cases hf
set_option maxRecDepth 20000 in
theorem zm_X1_widenCells {N : Nat} {s : AS} {l0 : Nat} {r : AS} (hf : f_X1_widenCells N l0 s = some r) : isO s.1 l0 1 ∧ ∀ (l : Launch) (G : GG), Mt l G yX1_widenCells cX1_widenCells 2 none 2 [.ref l0] s none r := by
  have hf0 := hf
  unfold f_X1_widenCells at hf
  refine ite_d hf (fun hO hf => ?_) (fun _ hf => ?_)
  · refine ⟨hO, fun l G => mt_of (Or.inl (by decide)) (Nat.le_of_ble_eq_true rfl) (lm_X1_widenCells hf0) (fun E hE => ?_)⟩
    show Z E yX1_widenCells cX1_widenCells 2 none 2 s 0 [(0, .ref l0)] []
    refine z_aload_n 0 dX1_widenCells_0 rfl rfl ?_
    refine z_gP (ci := 1) (k := 2) (C := RX1) (T := TX1) (N := 8) rfl inlX1 (by decide) mw_3_15 (fun _ _ _ _ h9 => h9) hf (by decide) rfl dX1_widenCells_1  (fun v1 hf => ?_)
    refine z_gI (ci := 8) (k := 1) (C := RX8) (T := TX8) (N := 2) rfl inlX8 (by decide) mw_8_19 (fun _ _ _ _ h9 => h9) hf (by decide) rfl dX1_widenCells_4  (fun v2 hf => ?_)
    refine z_sipush 200 200 dX1_widenCells_7 (by decide) ?_
    refine z_imul dX1_widenCells_10 ?_
    refine z_istore_n [(1, .int (v2 * (200 : Int32))), (0, .ref l0)] dX1_widenCells_11 rfl (by decide) rfl ?_
    refine z_iload_n 0 dX1_widenCells_12 rfl rfl ?_
    refine z_aload_n 1 dX1_widenCells_13 rfl rfl ?_
    refine z_gQ (ci := 1) (k := 7) (C := RX1) (T := TX1) (N := 8) rfl inlX1 (by decide) mw_3_21 (fun _ _ _ _ h9 => h9) hf (by decide) rfl dX1_widenCells_14  (fun v3 hf => ?_)
    refine z_aLen hf dX1_widenCells_17  (fun v4 hf => ?_)
    refine z_icmp_le 43 hf dX1_widenCells_18 (by decide) (fun hf => ?_) (fun hf => ?_)
    · refine z_lv [] [] rfl ?_
      exact zb_X1_widenCells_43 hE hf
    · refine z_aload_n 1 dX1_widenCells_21 rfl rfl ?_
      refine z_aload_n 1 dX1_widenCells_22 rfl rfl ?_
      refine z_gQ (ci := 1) (k := 7) (C := RX1) (T := TX1) (N := 8) rfl inlX1 (by decide) mw_3_21 (fun _ _ _ _ h9 => h9) hf (by decide) rfl dX1_widenCells_23  (fun v5 hf => ?_)
      refine z_iload_n 0 dX1_widenCells_26 rfl rfl ?_
      refine z_iconst 2 2 dX1_widenCells_27 (by decide) ?_
      refine z_aload_n 1 dX1_widenCells_28 rfl rfl ?_
      refine z_gQ (ci := 1) (k := 7) (C := RX1) (T := TX1) (N := 8) rfl inlX1 (by decide) mw_3_21 (fun _ _ _ _ h9 => h9) hf (by decide) rfl dX1_widenCells_29  (fun v6 hf => ?_)
      refine z_aLen hf dX1_widenCells_32  (fun v7 hf => ?_)
      refine z_imul dX1_widenCells_33 ?_
      refine z_max mw_8_20 mw_8_21 mw_8_22 mw_8_23 (by decide) (Nat.le_of_ble_eq_true rfl) dX1_widenCells_34 ?_
      obtain ⟨v8, ev8, hf⟩ := ob hf
      refine z_cTr (As := [.ref v5, .int (o_max (v2 * (200 : Int32)) ((2 : Int32) * v7))]) (rest := [.ref l0]) (zm_J7_copyOf_c38d5 ev8) (Or.inr (tg_le hE (le_X1_widenCells_40 hf))) mw_10_3 mw_10_4 mw_4_7 mw_10_5 yk_J7_copyOf_c38d5 (by decide) (by decide) rfl (Nat.le_of_ble_eq_true rfl) rfl dX1_widenCells_37 ?_
      refine z_lv [] [] rfl ?_
      exact zb_X1_widenCells_40 hE hf
  · cases hf
set_option maxRecDepth 20000 in
theorem le_X1_become_141 {N : Nat} {r : AS}   {s : AS} (hf : f_X1_become_141 N  s = some r) : Le s r := by
  unfold f_X1_become_141 at hf
  cases hf
  exact Le.rf
set_option maxRecDepth 20000 in
theorem zb_X1_become_141 {N : Nat} {r : AS} {E : EV} (hE : TG E none r)    {s : AS} (hf : f_X1_become_141 N  s = some r) : Z E yX1_become cX1_become 4 none 4 s 141 [] [] := by
  unfold f_X1_become_141 at hf
  cases hf
  exact z_return hE rfl dX1_become_141
set_option maxRecDepth 20000 in
theorem lg_X1_become_88 {N : Nat} {r : AS} {k88 : Nat → Nat → Int32 → AS → Option AS}  (hk88 : ∀ (l0 : Nat) (l1 : Nat) (l2 : Int32) (s : AS), k88 l0 l1 l2 s = some r → Le s r) {l0 : Nat} {l1 : Nat} {l2 : Int32} {s : AS} (hf : g_X1_become_88 N k88 l0 l1 l2 s = some r) : Le s r := by
  unfold g_X1_become_88 at hf
  obtain ⟨v22, -, hf⟩ := ob hf
  obtain ⟨v23, -, hf⟩ := ob hf
  refine ite_c hf (fun hf => ?_) (fun hf => ?_)
  · exact Le.via (le_X1_become_141 hf) rfl
  · obtain ⟨v24, -, hf⟩ := ob hf
    obtain ⟨v25, -, hf⟩ := ob hf
    obtain ⟨v26, -, hf⟩ := ob hf
    obtain ⟨v27, -, hf⟩ := ob hf
    obtain ⟨d28, -, hf⟩ := ob hf
    exact Le.via (hk88 _ _ _ _ hf) rfl
set_option maxRecDepth 20000 in
theorem le_X1_become_88 {N : Nat} {r : AS}  : ∀ (n : Nat) (l0 : Nat) (l1 : Nat) (l2 : Int32) (s : AS), f_X1_become_88 N n l0 l1 l2 s = some r → Le s r := by
  intro n
  induction n with
  | zero => intro l0 l1 l2 s hf; cases hf
  | succ n ih => intro l0 l1 l2 s hf; exact lg_X1_become_88 ih hf
set_option maxRecDepth 20000 in
theorem zg_X1_become_88 {N : Nat} {r : AS} {k88 : Nat → Nat → Int32 → AS → Option AS} {E : EV} (hE : TG E none r)   (hk88 : ∀ (l0 : Nat) (l1 : Nat) (l2 : Int32) (s : AS), k88 l0 l1 l2 s = some r → Z E yX1_become cX1_become 4 none 4 s 88 [(0, .ref l0), (1, .ref l1), (2, .int l2)] []) (hq88 : ∀ (l0 : Nat) (l1 : Nat) (l2 : Int32) (s : AS), k88 l0 l1 l2 s = some r → Le s r) {l0 : Nat} {l1 : Nat} {l2 : Int32} {s : AS} (hf : g_X1_become_88 N k88 l0 l1 l2 s = some r) : Z E yX1_become cX1_become 4 none 4 s 88 [(0, .ref l0), (1, .ref l1), (2, .int l2)] [] := by
  unfold g_X1_become_88 at hf
  refine z_iload_n 2 dX1_become_88 rfl rfl ?_
  refine z_aload_n 0 dX1_become_89 rfl rfl ?_
  refine z_gP (ci := 1) (k := 2) (C := RX1) (T := TX1) (N := 8) rfl inlX1 (by decide) mw_3_15 (fun _ _ _ _ h9 => h9) hf (by decide) rfl dX1_become_90  (fun v22 hf => ?_)
  refine z_gI (ci := 8) (k := 1) (C := RX8) (T := TX8) (N := 2) rfl inlX8 (by decide) mw_8_19 (fun _ _ _ _ h9 => h9) hf (by decide) rfl dX1_become_93  (fun v23 hf => ?_)
  refine z_icmp_ge 141 hf dX1_become_96 (by decide) (fun hf => ?_) (fun hf => ?_)
  · refine z_lv [] [] rfl ?_
    exact zb_X1_become_141 hE hf
  · refine z_iconst 0 0 dX1_become_99 (by decide) ?_
    refine z_aload_n 0 dX1_become_100 rfl rfl ?_
    refine z_gP (ci := 1) (k := 2) (C := RX1) (T := TX1) (N := 8) rfl inlX1 (by decide) mw_3_15 (fun _ _ _ _ h9 => h9) hf (by decide) rfl dX1_become_101  (fun v24 hf => ?_)
    refine z_iload_n 2 dX1_become_104 rfl rfl ?_
    refine z_iconst 2 2 dX1_become_105 (by decide) ?_
    obtain ⟨v25, ev25, hf⟩ := ob hf
    refine z_cVi (ci := 8) (T := TX8) (N := 2) (As := [.int l2, .int (2 : Int32)]) (rest := [.int (0 : Int32)]) (zm_X8_get ev25).2 (zm_X8_get ev25).1 (by decide) rfl (Or.inl rfl) mw_10_10 mw_10_11 mw_10_12 mw_3_13 mw_10_13 yk_X8_get (by decide) (by decide) rfl (Nat.le_of_ble_eq_true rfl) rfl dX1_become_106 ?_
    refine z_max mw_8_20 mw_8_21 mw_8_22 mw_8_23 (by decide) (Nat.le_of_ble_eq_true rfl) dX1_become_109 ?_
    refine z_istore_n [(3, .int (o_max (0 : Int32) v25)), (0, .ref l0), (1, .ref l1), (2, .int l2)] dX1_become_112 rfl (by decide) rfl ?_
    refine z_aload_n 2 dX1_become_113 rfl rfl ?_
    refine z_gQ (ci := 1) (k := 7) (C := RX1) (T := TX1) (N := 8) rfl inlX1 (by decide) mw_3_21 (fun _ _ _ _ h9 => h9) hf (by decide) rfl dX1_become_114  (fun v26 hf => ?_)
    refine z_iload_n 3 dX1_become_117 rfl rfl ?_
    refine z_sipush 200 200 dX1_become_118 (by decide) ?_
    refine z_imul dX1_become_121 ?_
    refine z_aload_n 1 dX1_become_122 rfl rfl ?_
    refine z_gQ (ci := 1) (k := 7) (C := RX1) (T := TX1) (N := 8) rfl inlX1 (by decide) mw_3_21 (fun _ _ _ _ h9 => h9) hf (by decide) rfl dX1_become_123  (fun v27 hf => ?_)
    refine z_iload_n 3 dX1_become_126 rfl rfl ?_
    refine z_sipush 200 200 dX1_become_127 (by decide) ?_
    refine z_imul dX1_become_130 ?_
    refine z_iload_n 0 dX1_become_131 rfl rfl ?_
    refine z_cpy hf mw_8_15 mw_8_16 mw_8_17 mw_8_18 (by decide) (Nat.le_of_ble_eq_true rfl) dX1_become_132 (fun d28 hf => ?_)
    refine z_iinc [(2, .int (l2 + 1)), (3, .int (o_max (0 : Int32) v25)), (0, .ref l0), (1, .ref l1)] 3 (l2 + 1) dX1_become_135 rfl rfl (by decide) rfl ?_
    refine z_goto 88 dX1_become_138 (by decide) ?_
    refine z_lv [(0, .ref l0), (1, .ref l1), (2, .int (l2 + 1))] [2, 3, 0] rfl ?_
    exact hk88 _ _ _ _ hf
set_option maxRecDepth 20000 in
theorem zb_X1_become_88 {N : Nat} {r : AS} {E : EV} (hE : TG E none r)   : ∀ (n : Nat) (l0 : Nat) (l1 : Nat) (l2 : Int32) (s : AS), f_X1_become_88 N n l0 l1 l2 s = some r → Z E yX1_become cX1_become 4 none 4 s 88 [(0, .ref l0), (1, .ref l1), (2, .int l2)] [] := by
  intro n
  induction n with
  | zero => intro l0 l1 l2 s hf; cases hf
  | succ n ih => intro l0 l1 l2 s hf; exact zg_X1_become_88 hE ih (le_X1_become_88 n) hf
set_option maxRecDepth 20000 in
theorem le_X1_become_86 {N : Nat} {r : AS}  {l0 : Nat} {l1 : Nat} {s : AS} (hf : f_X1_become_86 N l0 l1 s = some r) : Le s r := by
  unfold f_X1_become_86 at hf
  exact Le.via (le_X1_become_88 N _ _ _ _ hf) rfl
set_option maxRecDepth 20000 in
theorem zb_X1_become_86 {N : Nat} {r : AS} {E : EV} (hE : TG E none r)   {l0 : Nat} {l1 : Nat} {s : AS} (hf : f_X1_become_86 N l0 l1 s = some r) : Z E yX1_become cX1_become 4 none 4 s 86 [(0, .ref l0), (1, .ref l1)] [] := by
  unfold f_X1_become_86 at hf
  refine z_iconst 0 0 dX1_become_86 (by decide) ?_
  refine z_istore_n [(2, .int (0 : Int32)), (0, .ref l0), (1, .ref l1)] dX1_become_87 rfl (by decide) rfl ?_
  refine z_lv [(0, .ref l0), (1, .ref l1), (2, .int (0 : Int32))] [1, 2, 0] rfl ?_
  exact zb_X1_become_88 hE N _ _ _ _ hf
set_option maxRecDepth 20000 in
theorem le_X1_become_52 {N : Nat} {r : AS}  {l0 : Nat} {l1 : Nat} {s : AS} (hf : f_X1_become_52 N l0 l1 s = some r) : Le s r := by
  unfold f_X1_become_52 at hf
  obtain ⟨v15, -, hf⟩ := ob hf
  obtain ⟨v16, -, hf⟩ := ob hf
  obtain ⟨d17, -, hf⟩ := ob hf
  obtain ⟨v18, -, hf⟩ := ob hf
  obtain ⟨v19, -, hf⟩ := ob hf
  obtain ⟨d20, -, hf⟩ := ob hf
  obtain ⟨v21, ev21, hf⟩ := ob hf
  refine Le.of (t := (s.1, d20)) rfl ((lm_X1_widenCells ev21).tr ?_)
  exact Le.via (le_X1_become_86 hf) rfl
set_option maxRecDepth 20000 in
theorem zb_X1_become_52 {N : Nat} {r : AS} {E : EV} (hE : TG E none r)   {l0 : Nat} {l1 : Nat} {s : AS} (hf : f_X1_become_52 N l0 l1 s = some r) : Z E yX1_become cX1_become 4 none 4 s 52 [(0, .ref l0), (1, .ref l1)] [] := by
  unfold f_X1_become_52 at hf
  refine z_aload_n 1 dX1_become_52 rfl rfl ?_
  refine z_gP (ci := 1) (k := 5) (C := RX1) (T := TX1) (N := 8) rfl inlX1 (by decide) mw_3_18 (fun _ _ _ _ h9 => h9) hf (by decide) rfl dX1_become_53  (fun v15 hf => ?_)
  refine z_iconst 0 0 dX1_become_56 (by decide) ?_
  refine z_aload_n 0 dX1_become_57 rfl rfl ?_
  refine z_gP (ci := 1) (k := 5) (C := RX1) (T := TX1) (N := 8) rfl inlX1 (by decide) mw_3_18 (fun _ _ _ _ h9 => h9) hf (by decide) rfl dX1_become_58  (fun v16 hf => ?_)
  refine z_iconst 0 0 dX1_become_61 (by decide) ?_
  refine z_bipush 7 7 dX1_become_62 (by decide) ?_
  refine z_cpy hf mw_8_15 mw_8_16 mw_8_17 mw_8_18 (by decide) (Nat.le_of_ble_eq_true rfl) dX1_become_64 (fun d17 hf => ?_)
  refine z_aload_n 1 dX1_become_67 rfl rfl ?_
  refine z_gP (ci := 1) (k := 6) (C := RX1) (T := TX1) (N := 8) rfl inlX1 (by decide) mw_3_19 (fun _ _ _ _ h9 => h9) hf (by decide) rfl dX1_become_68  (fun v18 hf => ?_)
  refine z_iconst 0 0 dX1_become_71 (by decide) ?_
  refine z_aload_n 0 dX1_become_72 rfl rfl ?_
  refine z_gP (ci := 1) (k := 6) (C := RX1) (T := TX1) (N := 8) rfl inlX1 (by decide) mw_3_19 (fun _ _ _ _ h9 => h9) hf (by decide) rfl dX1_become_73  (fun v19 hf => ?_)
  refine z_iconst 0 0 dX1_become_76 (by decide) ?_
  refine z_bipush 60 60 dX1_become_77 (by decide) ?_
  refine z_cpy hf mw_8_15 mw_8_16 mw_8_17 mw_8_18 (by decide) (Nat.le_of_ble_eq_true rfl) dX1_become_79 (fun d20 hf => ?_)
  refine z_aload_n 0 dX1_become_82 rfl rfl ?_
  obtain ⟨v21, ev21, hf⟩ := ob hf
  refine z_cVv (ci := 1) (T := TX1) (N := 8) (As := []) (rest := []) (zm_X1_widenCells ev21).2 (zm_X1_widenCells ev21).1 (by decide) rfl (Or.inr (tg_le hE (le_X1_become_86 hf))) mw_9_23 mw_10_0 mw_10_1 mw_1_18 mw_10_2 yk_X1_widenCells (by decide) (by decide) rfl (Nat.le_of_ble_eq_true rfl) rfl dX1_become_83 ?_
  exact zb_X1_become_86 hE hf
set_option maxRecDepth 20000 in
theorem le_X1_become_41 {N : Nat} {r : AS}  {l0 : Nat} {l1 : Nat} {s : AS} (hf : f_X1_become_41 N l0 l1 s = some r) : Le s r := by
  unfold f_X1_become_41 at hf
  obtain ⟨v12, -, hf⟩ := ob hf
  obtain ⟨v13, -, hf⟩ := ob hf
  obtain ⟨v14, ev14, hf⟩ := ob hf
  refine Le.of (t := (s.1, s.2)) rfl ((lm_X8_become ev14).tr ?_)
  exact Le.via (le_X1_become_52 hf) rfl
set_option maxRecDepth 20000 in
theorem zb_X1_become_41 {N : Nat} {r : AS} {E : EV} (hE : TG E none r)   {l0 : Nat} {l1 : Nat} {s : AS} (hf : f_X1_become_41 N l0 l1 s = some r) : Z E yX1_become cX1_become 4 none 4 s 41 [(0, .ref l0), (1, .ref l1)] [] := by
  unfold f_X1_become_41 at hf
  refine z_aload_n 0 dX1_become_41 rfl rfl ?_
  refine z_gP (ci := 1) (k := 4) (C := RX1) (T := TX1) (N := 8) rfl inlX1 (by decide) mw_3_17 (fun _ _ _ _ h9 => h9) hf (by decide) rfl dX1_become_42  (fun v12 hf => ?_)
  refine z_aload_n 1 dX1_become_45 rfl rfl ?_
  refine z_gP (ci := 1) (k := 4) (C := RX1) (T := TX1) (N := 8) rfl inlX1 (by decide) mw_3_17 (fun _ _ _ _ h9 => h9) hf (by decide) rfl dX1_become_46  (fun v13 hf => ?_)
  obtain ⟨v14, ev14, hf⟩ := ob hf
  refine z_cVv (ci := 8) (T := TX8) (N := 2) (As := [.ref v13]) (rest := []) (zm_X8_become ev14).2 (zm_X8_become ev14).1 (by decide) rfl (Or.inr (tg_le hE (le_X1_become_52 hf))) mw_9_0 mw_9_1 mw_9_2 mw_3_13 mw_9_3 yk_X8_become (by decide) (by decide) rfl (Nat.le_of_ble_eq_true rfl) rfl dX1_become_49 ?_
  exact zb_X1_become_52 hE hf
set_option maxRecDepth 20000 in
theorem le_X1_become_30 {N : Nat} {r : AS}  {l0 : Nat} {l1 : Nat} {s : AS} (hf : f_X1_become_30 N l0 l1 s = some r) : Le s r := by
  unfold f_X1_become_30 at hf
  obtain ⟨v9, -, hf⟩ := ob hf
  obtain ⟨v10, -, hf⟩ := ob hf
  obtain ⟨v11, ev11, hf⟩ := ob hf
  refine Le.of (t := (s.1, s.2)) rfl ((lm_X8_become ev11).tr ?_)
  exact Le.via (le_X1_become_41 hf) rfl
set_option maxRecDepth 20000 in
theorem zb_X1_become_30 {N : Nat} {r : AS} {E : EV} (hE : TG E none r)   {l0 : Nat} {l1 : Nat} {s : AS} (hf : f_X1_become_30 N l0 l1 s = some r) : Z E yX1_become cX1_become 4 none 4 s 30 [(0, .ref l0), (1, .ref l1)] [] := by
  unfold f_X1_become_30 at hf
  refine z_aload_n 0 dX1_become_30 rfl rfl ?_
  refine z_gP (ci := 1) (k := 3) (C := RX1) (T := TX1) (N := 8) rfl inlX1 (by decide) mw_3_16 (fun _ _ _ _ h9 => h9) hf (by decide) rfl dX1_become_31  (fun v9 hf => ?_)
  refine z_aload_n 1 dX1_become_34 rfl rfl ?_
  refine z_gP (ci := 1) (k := 3) (C := RX1) (T := TX1) (N := 8) rfl inlX1 (by decide) mw_3_16 (fun _ _ _ _ h9 => h9) hf (by decide) rfl dX1_become_35  (fun v10 hf => ?_)
  obtain ⟨v11, ev11, hf⟩ := ob hf
  refine z_cVv (ci := 8) (T := TX8) (N := 2) (As := [.ref v10]) (rest := []) (zm_X8_become ev11).2 (zm_X8_become ev11).1 (by decide) rfl (Or.inr (tg_le hE (le_X1_become_41 hf))) mw_9_0 mw_9_1 mw_9_2 mw_3_13 mw_9_3 yk_X8_become (by decide) (by decide) rfl (Nat.le_of_ble_eq_true rfl) rfl dX1_become_38 ?_
  exact zb_X1_become_41 hE hf
set_option maxRecDepth 20000 in
theorem le_X1_become_19 {N : Nat} {r : AS}  {l0 : Nat} {l1 : Nat} {s : AS} (hf : f_X1_become_19 N l0 l1 s = some r) : Le s r := by
  unfold f_X1_become_19 at hf
  obtain ⟨v6, -, hf⟩ := ob hf
  obtain ⟨v7, -, hf⟩ := ob hf
  obtain ⟨v8, ev8, hf⟩ := ob hf
  refine Le.of (t := (s.1, s.2)) rfl ((lm_X8_become ev8).tr ?_)
  exact Le.via (le_X1_become_30 hf) rfl
set_option maxRecDepth 20000 in
theorem zb_X1_become_19 {N : Nat} {r : AS} {E : EV} (hE : TG E none r)   {l0 : Nat} {l1 : Nat} {s : AS} (hf : f_X1_become_19 N l0 l1 s = some r) : Z E yX1_become cX1_become 4 none 4 s 19 [(0, .ref l0), (1, .ref l1)] [] := by
  unfold f_X1_become_19 at hf
  refine z_aload_n 0 dX1_become_19 rfl rfl ?_
  refine z_gP (ci := 1) (k := 2) (C := RX1) (T := TX1) (N := 8) rfl inlX1 (by decide) mw_3_15 (fun _ _ _ _ h9 => h9) hf (by decide) rfl dX1_become_20  (fun v6 hf => ?_)
  refine z_aload_n 1 dX1_become_23 rfl rfl ?_
  refine z_gP (ci := 1) (k := 2) (C := RX1) (T := TX1) (N := 8) rfl inlX1 (by decide) mw_3_15 (fun _ _ _ _ h9 => h9) hf (by decide) rfl dX1_become_24  (fun v7 hf => ?_)
  obtain ⟨v8, ev8, hf⟩ := ob hf
  refine z_cVv (ci := 8) (T := TX8) (N := 2) (As := [.ref v7]) (rest := []) (zm_X8_become ev8).2 (zm_X8_become ev8).1 (by decide) rfl (Or.inr (tg_le hE (le_X1_become_30 hf))) mw_9_0 mw_9_1 mw_9_2 mw_3_13 mw_9_3 yk_X8_become (by decide) (by decide) rfl (Nat.le_of_ble_eq_true rfl) rfl dX1_become_27 ?_
  exact zb_X1_become_30 hE hf
set_option maxRecDepth 20000 in
theorem lm_X1_become {N : Nat} {s : AS} {l0 : Nat} {l1 : Nat} {r : AS} (hf : f_X1_become N l0 l1 s = some r) : Le s r := by
  unfold f_X1_become at hf
  refine ite_c hf (fun hf => ?_) (fun hf => ?_)
  · skip
    obtain ⟨v1, -, hf⟩ := ob hf
    obtain ⟨d2, -, hf⟩ := ob hf
    obtain ⟨v3, -, hf⟩ := ob hf
    obtain ⟨v4, -, hf⟩ := ob hf
    obtain ⟨v5, ev5, hf⟩ := ob hf
    refine Le.of (t := (s.1, d2)) rfl ((lm_X8_become ev5).tr ?_)
    exact Le.via (le_X1_become_19 hf) rfl
  · cases hf
set_option maxRecDepth 20000 in
theorem zm_X1_become {N : Nat} {s : AS} {l0 : Nat} {l1 : Nat} {r : AS} (hf : f_X1_become N l0 l1 s = some r) : isO s.1 l0 1 ∧ ∀ (l : Launch) (G : GG), Mt l G yX1_become cX1_become 4 none 4 [.ref l0, .ref l1] s none r := by
  have hf0 := hf
  unfold f_X1_become at hf
  refine ite_d hf (fun hO hf => ?_) (fun _ hf => ?_)
  · refine ⟨hO, fun l G => mt_of (Or.inl (by decide)) (Nat.le_of_ble_eq_true rfl) (lm_X1_become hf0) (fun E hE => ?_)⟩
    show Z E yX1_become cX1_become 4 none 4 s 0 [(0, .ref l0), (1, .ref l1)] []
    refine z_aload_n 0 dX1_become_0 rfl rfl ?_
    refine z_aload_n 1 dX1_become_1 rfl rfl ?_
    refine z_gI (ci := 1) (k := 0) (C := RX1) (T := TX1) (N := 8) rfl inlX1 (by decide) mw_3_10 (fun _ _ _ _ h9 => h9) hf (by decide) rfl dX1_become_2  (fun v1 hf => ?_)
    refine z_pI (ci := 1) (k := 0) (C := RX1) (T := TX1) (N := 8) rfl inlX1 (by decide) mw_3_10 (fun _ _ _ _ h9 => h9) tyX1 tyX1_ok nmX1 rfl hf (Or.inl (by decide)) rfl rfl rfl dX1_become_5  (fun d2 hf => ?_)
    refine z_aload_n 0 dX1_become_8 rfl rfl ?_
    refine z_gP (ci := 1) (k := 1) (C := RX1) (T := TX1) (N := 8) rfl inlX1 (by decide) mw_3_14 (fun _ _ _ _ h9 => h9) hf (by decide) rfl dX1_become_9  (fun v3 hf => ?_)
    refine z_aload_n 1 dX1_become_12 rfl rfl ?_
    refine z_gP (ci := 1) (k := 1) (C := RX1) (T := TX1) (N := 8) rfl inlX1 (by decide) mw_3_14 (fun _ _ _ _ h9 => h9) hf (by decide) rfl dX1_become_13  (fun v4 hf => ?_)
    obtain ⟨v5, ev5, hf⟩ := ob hf
    refine z_cVv (ci := 8) (T := TX8) (N := 2) (As := [.ref v4]) (rest := []) (zm_X8_become ev5).2 (zm_X8_become ev5).1 (by decide) rfl (Or.inr (tg_le hE (le_X1_become_19 hf))) mw_9_0 mw_9_1 mw_9_2 mw_3_13 mw_9_3 yk_X8_become (by decide) (by decide) rfl (Nat.le_of_ble_eq_true rfl) rfl dX1_become_16 ?_
    exact zb_X1_become_19 hE hf
  · cases hf
set_option maxRecDepth 20000 in
theorem zm_X4_forget {N : Nat} {sh : Sh} {d : Dt} {l0 : Nat} {r : Dt} (hf : f_X4_forget N sh l0 d = some r) : isO sh l0 4 ∧ ∀ (l : Launch) (G : GG), Mt l G yX4_forget cX4_forget 1 none 1 [.ref l0] (sh, d) none (sh, r) := by
  have hf0 := hf
  unfold f_X4_forget at hf
  refine ite_d hf (fun hO hf => ?_) (fun _ hf => ?_)
  · refine ⟨hO, fun l G => mt_of (Or.inl (by decide)) (Nat.le_of_ble_eq_true rfl) Le.rf (fun E hE => ?_)⟩
    show Z E yX4_forget cX4_forget 1 none 1 (sh, d) 0 [(0, .ref l0)] []
    refine z_aload_n 0 dX4_forget_0 rfl rfl ?_
    refine z_iconst 0 0 dX4_forget_1 (by decide) ?_
    refine z_pI (ci := 4) (k := 4) (C := RX4) (T := TX4) (N := 12) rfl inlX4 (by decide) mw_5_2 (fun _ _ _ _ h9 => h9) tyX4 tyX4_ok nmX4 rfl hf (Or.inl (by decide)) rfl rfl rfl dX4_forget_2  (fun d1 hf => ?_)
    refine z_aload_n 0 dX4_forget_5 rfl rfl ?_
    refine z_iconst 0 0 dX4_forget_6 (by decide) ?_
    refine z_pI (ci := 4) (k := 7) (C := RX4) (T := TX4) (N := 12) rfl inlX4 (by decide) mw_5_6 (fun _ _ _ _ h9 => h9) tyX4 tyX4_ok nmX4 rfl hf (Or.inl (by decide)) rfl rfl rfl dX4_forget_7  (fun d2 hf => ?_)
    cases hf
    exact z_return hE rfl dX4_forget_10
  · cases hf
set_option maxRecDepth 20000 in
theorem zm_X11_forgetWays {N : Nat} {sh : Sh} {d : Dt} {l0 : Nat} {r : Dt} (hf : f_X11_forgetWays N sh l0 d = some r) : isO sh l0 11 ∧ ∀ (l : Launch) (G : GG), Mt l G yX11_forgetWays cX11_forgetWays 1 none 2 [.ref l0] (sh, d) none (sh, r) := by
  have hf0 := hf
  unfold f_X11_forgetWays at hf
  refine ite_d hf (fun hO hf => ?_) (fun _ hf => ?_)
  · refine ⟨hO, fun l G => mt_of (Or.inl (by decide)) (Nat.le_of_ble_eq_true rfl) Le.rf (fun E hE => ?_)⟩
    show Z E yX11_forgetWays cX11_forgetWays 1 none 2 (sh, d) 0 [(0, .ref l0)] []
    refine z_aload_n 0 dX11_forgetWays_0 rfl rfl ?_
    refine z_gP (ci := 11) (k := 3) (C := RX11) (T := TX11) (N := 14) rfl inlX11 (by decide) mw_2_0 (fun _ _ _ _ h9 => h9) hf (by decide) rfl dX11_forgetWays_1  (fun v1 hf => ?_)
    obtain ⟨v2, ev2, hf⟩ := ob hf
    refine z_cVv (ci := 10) (T := TX10) (N := 6) (As := []) (rest := []) (zm_X10_forget ev2).2 (zm_X10_forget ev2).1 (by decide) rfl (Or.inl rfl) mw_10_18 mw_10_19 mw_10_20 mw_1_23 mw_10_21 yk_X10_forget (by decide) (by decide) rfl (Nat.le_of_ble_eq_true rfl) rfl dX11_forgetWays_4 ?_
    refine z_aload_n 0 dX11_forgetWays_7 rfl rfl ?_
    refine z_gP (ci := 11) (k := 4) (C := RX11) (T := TX11) (N := 14) rfl inlX11 (by decide) mw_2_4 (fun _ _ _ _ h9 => h9) hf (by decide) rfl dX11_forgetWays_8  (fun v3 hf => ?_)
    obtain ⟨v4, ev4, hf⟩ := ob hf
    refine z_cVv (ci := 4) (T := TX4) (N := 12) (As := []) (rest := []) (zm_X4_forget ev4).2 (zm_X4_forget ev4).1 (by decide) rfl (Or.inl rfl) mw_10_22 mw_10_23 mw_11_0 mw_2_3 mw_11_1 yk_X4_forget (by decide) (by decide) rfl (Nat.le_of_ble_eq_true rfl) rfl dX11_forgetWays_11 ?_
    cases hf
    exact z_return hE rfl dX11_forgetWays_14
  · cases hf
set_option maxRecDepth 20000 in
theorem le_X11_change_11 {N : Nat} {r : AS}  {l0 : Nat} {s : AS} (hf : f_X11_change_11 N l0 s = some r) : Le s r := by
  unfold f_X11_change_11 at hf
  obtain ⟨d4, -, hf⟩ := ob hf
  obtain ⟨v5, -, hf⟩ := ob hf
  cases hf
  exact Le.rf
set_option maxRecDepth 20000 in
theorem zb_X11_change_11 {N : Nat} {r : AS} {E : EV} (hE : TG E none r)   {l0 : Nat} {s : AS} (hf : f_X11_change_11 N l0 s = some r) : Z E yX11_change cX11_change 1 none 5 s 11 [(0, .ref l0)] [] := by
  unfold f_X11_change_11 at hf
  refine z_aload_n 0 dX11_change_11 rfl rfl ?_
  refine z_iconst 1 1 dX11_change_12 (by decide) ?_
  refine z_pI (ci := 11) (k := 13) (C := RX11) (T := TX11) (N := 14) rfl inlX11 (by decide) mw_2_20 (fun _ _ _ _ h9 => h9) tyX11 tyX11_ok nmX11 rfl hf (Or.inl (by decide)) rfl rfl rfl dX11_change_13  (fun d4 hf => ?_)
  refine z_aload_n 0 dX11_change_16 rfl rfl ?_
  obtain ⟨v5, ev5, hf⟩ := ob hf
  refine z_cVv (ci := 11) (T := TX11) (N := 14) (As := []) (rest := []) (zm_X11_forgetWays ev5).2 (zm_X11_forgetWays ev5).1 (by decide) rfl (Or.inl rfl) mw_10_14 mw_10_15 mw_10_16 mw_1_2 mw_10_17 yk_X11_forgetWays (by decide) (by decide) rfl (Nat.le_of_ble_eq_true rfl) rfl dX11_change_17 ?_
  cases hf
  exact z_return hE rfl dX11_change_20
set_option maxRecDepth 20000 in
theorem lm_X11_change {N : Nat} {s : AS} {l0 : Nat} {r : AS} (hf : f_X11_change N l0 s = some r) : Le s r := by
  unfold f_X11_change at hf
  refine ite_c hf (fun hf => ?_) (fun hf => ?_)
  · skip
    obtain ⟨v1, -, hf⟩ := ob hf
    obtain ⟨v2, -, hf⟩ := ob hf
    obtain ⟨v3, ev3, hf⟩ := ob hf
    refine Le.of (t := (s.1, s.2)) rfl ((lm_X1_become ev3).tr ?_)
    exact Le.via (le_X11_change_11 hf) rfl
  · cases hf
set_option maxRecDepth 20000 in
theorem zm_X11_change {N : Nat} {s : AS} {l0 : Nat} {r : AS} (hf : f_X11_change N l0 s = some r) : isO s.1 l0 11 ∧ ∀ (l : Launch) (G : GG), Mt l G yX11_change cX11_change 1 none 5 [.ref l0] s none r := by
  have hf0 := hf
  unfold f_X11_change at hf
  refine ite_d hf (fun hO hf => ?_) (fun _ hf => ?_)
  · refine ⟨hO, fun l G => mt_of (Or.inl (by decide)) (Nat.le_of_ble_eq_true rfl) (lm_X11_change hf0) (fun E hE => ?_)⟩
    show Z E yX11_change cX11_change 1 none 5 s 0 [(0, .ref l0)] []
    refine z_aload_n 0 dX11_change_0 rfl rfl ?_
    refine z_gP (ci := 11) (k := 2) (C := RX11) (T := TX11) (N := 14) rfl inlX11 (by decide) mw_1_20 (fun _ _ _ _ h9 => h9) hf (by decide) rfl dX11_change_1  (fun v1 hf => ?_)
    refine z_aload_n 0 dX11_change_4 rfl rfl ?_
    refine z_gP (ci := 11) (k := 1) (C := RX11) (T := TX11) (N := 14) rfl inlX11 (by decide) mw_1_19 (fun _ _ _ _ h9 => h9) hf (by decide) rfl dX11_change_5  (fun v2 hf => ?_)
    obtain ⟨v3, ev3, hf⟩ := ob hf
    refine z_cVv (ci := 1) (T := TX1) (N := 8) (As := [.ref v2]) (rest := []) (zm_X1_become ev3).2 (zm_X1_become ev3).1 (by decide) rfl (Or.inr (tg_le hE (le_X11_change_11 hf))) mw_8_11 mw_8_12 mw_8_13 mw_1_18 mw_8_14 yk_X1_become (by decide) (by decide) rfl (Nat.le_of_ble_eq_true rfl) rfl dX11_change_8 ?_
    exact zb_X11_change_11 hE hf
  · cases hf
set_option maxRecDepth 20000 in
theorem zb_X8_put_34 {N : Nat} {sh : Sh} {r : Dt} {E : EV} (hE : TG E none (sh, r))   {d : Dt} (hf : f_X8_put_34 N sh  d = some r) : Z E yX8_put cX8_put 4 none 1 (sh, d) 34 [] [] := by
  unfold f_X8_put_34 at hf
  cases hf
  exact z_return hE rfl dX8_put_34
set_option maxRecDepth 20000 in
theorem zm_X8_put {N : Nat} {sh : Sh} {d : Dt} {l0 : Nat} {l1 : Int32} {l2 : Int32} {l3 : Int32} {r : Dt} (hf : f_X8_put N sh l0 l1 l2 l3 d = some r) : isO sh l0 8 ∧ ∀ (l : Launch) (G : GG), Mt l G yX8_put cX8_put 4 none 1 [.ref l0, .int l1, .int l2, .int l3] (sh, d) none (sh, r) := by
  have hf0 := hf
  unfold f_X8_put at hf
  refine ite_d hf (fun hO hf => ?_) (fun _ hf => ?_)
  · refine ⟨hO, fun l G => mt_of (Or.inl (by decide)) (Nat.le_of_ble_eq_true rfl) Le.rf (fun E hE => ?_)⟩
    show Z E yX8_put cX8_put 4 none 1 (sh, d) 0 [(0, .ref l0), (1, .int l1), (2, .int l2), (3, .int l3)] []
    refine z_iload_n 1 dX8_put_0 rfl rfl ?_
    refine z_if_lt 34 hf dX8_put_1 (by decide) (fun hf => ?_) (fun hf => ?_)
    · refine z_lv [] [] rfl ?_
      exact zb_X8_put_34 hE hf
    · refine z_iload_n 1 dX8_put_4 rfl rfl ?_
      refine z_aload_n 0 dX8_put_5 rfl rfl ?_
      refine z_gI (ci := 8) (k := 1) (C := RX8) (T := TX8) (N := 2) rfl inlX8 (by decide) mw_4_2 (fun _ _ _ _ h9 => h9) hf (by decide) rfl dX8_put_6  (fun v1 hf => ?_)
      refine z_icmp_ge 34 hf dX8_put_9 (by decide) (fun hf => ?_) (fun hf => ?_)
      · refine z_lv [] [] rfl ?_
        exact zb_X8_put_34 hE hf
      · refine z_iload_n 2 dX8_put_12 rfl rfl ?_
        refine z_if_lt 34 hf dX8_put_13 (by decide) (fun hf => ?_) (fun hf => ?_)
        · refine z_lv [] [] rfl ?_
          exact zb_X8_put_34 hE hf
        · refine z_iload_n 2 dX8_put_16 rfl rfl ?_
          refine z_aload_n 0 dX8_put_17 rfl rfl ?_
          refine z_gP (ci := 8) (k := 0) (C := RX8) (T := TX8) (N := 2) rfl inlX8 (by decide) mw_4_4 (fun _ _ _ _ h9 => h9) hf (by decide) rfl dX8_put_18  (fun v2 hf => ?_)
          refine z_aLen hf dX8_put_21  (fun v3 hf => ?_)
          refine z_icmp_ge 34 hf dX8_put_22 (by decide) (fun hf => ?_) (fun hf => ?_)
          · refine z_lv [] [] rfl ?_
            exact zb_X8_put_34 hE hf
          · refine z_aload_n 0 dX8_put_25 rfl rfl ?_
            refine z_gP (ci := 8) (k := 0) (C := RX8) (T := TX8) (N := 2) rfl inlX8 (by decide) mw_4_4 (fun _ _ _ _ h9 => h9) hf (by decide) rfl dX8_put_26  (fun v4 hf => ?_)
            refine z_iload_n 2 dX8_put_29 rfl rfl ?_
            refine z_aR hf dX8_put_30  (fun v5 hf => ?_)
            refine z_iload_n 1 dX8_put_31 rfl rfl ?_
            refine z_iload_n 3 dX8_put_32 rfl rfl ?_
            refine z_sI hf dX8_put_33  (fun d6 hf => ?_)
            refine z_lv [] [] rfl ?_
            exact zb_X8_put_34 hE hf
  · cases hf
set_option maxRecDepth 20000 in
theorem le_X11_become_39 {N : Nat} {r : Int32 × AS}  {l0 : Nat} {l1 : Int32} {l2 : Int32} {l3 : Int32} {l4 : Int32} {s : AS} (hf : f_X11_become_39 N l0 l1 l2 l3 l4 s = some r) : Le s r.2 := by
  unfold f_X11_become_39 at hf
  obtain ⟨v9, -, hf⟩ := ob hf
  obtain ⟨v10, -, hf⟩ := ob hf
  obtain ⟨v11, -, hf⟩ := ob hf
  obtain ⟨v12, -, hf⟩ := ob hf
  cases hf
  exact Le.rf
set_option maxRecDepth 20000 in
theorem zb_X11_become_39 {N : Nat} {r : Int32 × AS} {E : EV} (hE : TG E (some (.int r.1)) r.2)   {l0 : Nat} {l1 : Int32} {l2 : Int32} {l3 : Int32} {l4 : Int32} {s : AS} (hf : f_X11_become_39 N l0 l1 l2 l3 l4 s = some r) : Z E yX11_become cX11_become 5 (some .int) 6 s 39 [(0, .ref l0), (1, .int l1), (2, .int l2), (3, .int l3), (4, .int l4)] [] := by
  unfold f_X11_become_39 at hf
  refine z_aload_n 0 dX11_become_39 rfl rfl ?_
  refine z_gP (ci := 11) (k := 1) (C := RX11) (T := TX11) (N := 14) rfl inlX11 (by decide) mw_1_19 (fun _ _ _ _ h9 => h9) hf (by decide) rfl dX11_become_40  (fun v9 hf => ?_)
  refine z_gP (ci := 1) (k := 1) (C := RX1) (T := TX1) (N := 8) rfl inlX1 (by decide) mw_12_12 (fun _ _ _ _ h9 => h9) hf (by decide) rfl dX11_become_43  (fun v10 hf => ?_)
  refine z_iload_n 1 dX11_become_46 rfl rfl ?_
  refine z_iload_n 2 dX11_become_47 rfl rfl ?_
  refine z_iload_n 3 dX11_become_48 rfl rfl ?_
  obtain ⟨v11, ev11, hf⟩ := ob hf
  refine z_cVv (ci := 8) (T := TX8) (N := 2) (As := [.int l1, .int l2, .int l3]) (rest := []) (zm_X8_put ev11).2 (zm_X8_put ev11).1 (by decide) rfl (Or.inl rfl) mw_12_22 mw_12_23 mw_13_0 mw_3_13 mw_13_1 yk_X8_put (by decide) (by decide) rfl (Nat.le_of_ble_eq_true rfl) rfl dX11_become_49 ?_
  refine z_aload_n 0 dX11_become_52 rfl rfl ?_
  refine z_iload 4 dX11_become_53 rfl ?_
  obtain ⟨v12, ev12, hf⟩ := ob hf
  refine z_cVi (ci := 11) (T := TX11) (N := 14) (As := [.int l4]) (rest := []) (zm_X11_answer ev12).2 (zm_X11_answer ev12).1 (by decide) rfl (Or.inl rfl) mw_11_2 mw_11_3 mw_11_4 mw_1_2 mw_11_5 yk_X11_answer (by decide) (by decide) rfl (Nat.le_of_ble_eq_true rfl) rfl dX11_become_55 ?_
  cases hf
  exact z_ireturn hE rfl dX11_become_58
set_option maxRecDepth 20000 in
theorem lm_X11_become {N : Nat} {s : AS} {l0 : Nat} {l1 : Int32} {l2 : Int32} {l3 : Int32} {r : Int32 × AS} (hf : f_X11_become N l0 l1 l2 l3 s = some r) : Le s r.2 := by
  unfold f_X11_become at hf
  refine ite_c hf (fun hf => ?_) (fun hf => ?_)
  · skip
    obtain ⟨v1, -, hf⟩ := ob hf
    obtain ⟨v2, -, hf⟩ := ob hf
    obtain ⟨v3, -, hf⟩ := ob hf
    refine ite_c hf (fun hf => ?_) (fun hf => ?_)
    · obtain ⟨v4, -, hf⟩ := ob hf
      obtain ⟨v5, -, hf⟩ := ob hf
      obtain ⟨v6, -, hf⟩ := ob hf
      obtain ⟨v7, ev7, hf⟩ := ob hf
      refine Le.of (t := (s.1, s.2)) rfl ((lm_X11_change ev7).tr ?_)
      exact Le.via (le_X11_become_39 hf) rfl
    · obtain ⟨v8, -, hf⟩ := ob hf
      cases hf
      exact Le.rf
  · cases hf
set_option maxRecDepth 20000 in
theorem zm_X11_become {N : Nat} {s : AS} {l0 : Nat} {l1 : Int32} {l2 : Int32} {l3 : Int32} {r : Int32 × AS} (hf : f_X11_become N l0 l1 l2 l3 s = some r) : isO s.1 l0 11 ∧ ∀ (l : Launch) (G : GG), Mt l G yX11_become cX11_become 5 (some .int) 6 [.ref l0, .int l1, .int l2, .int l3] s (some (.int r.1)) r.2 := by
  have hf0 := hf
  unfold f_X11_become at hf
  refine ite_d hf (fun hO hf => ?_) (fun _ hf => ?_)
  · refine ⟨hO, fun l G => mt_of (Or.inl (by decide)) (Nat.le_of_ble_eq_true rfl) (lm_X11_become hf0) (fun E hE => ?_)⟩
    show Z E yX11_become cX11_become 5 (some .int) 6 s 0 [(0, .ref l0), (1, .int l1), (2, .int l2), (3, .int l3)] []
    refine z_aload_n 0 dX11_become_0 rfl rfl ?_
    refine z_gP (ci := 11) (k := 1) (C := RX11) (T := TX11) (N := 14) rfl inlX11 (by decide) mw_1_19 (fun _ _ _ _ h9 => h9) hf (by decide) rfl dX11_become_1  (fun v1 hf => ?_)
    refine z_gP (ci := 1) (k := 1) (C := RX1) (T := TX1) (N := 8) rfl inlX1 (by decide) mw_12_12 (fun _ _ _ _ h9 => h9) hf (by decide) rfl dX11_become_4  (fun v2 hf => ?_)
    refine z_iload_n 1 dX11_become_7 rfl rfl ?_
    obtain ⟨v3, ev3, hf⟩ := ob hf
    refine z_cVi (ci := 8) (T := TX8) (N := 2) (As := [.int l1]) (rest := []) (zm_X8_has ev3).2 (zm_X8_has ev3).1 (by decide) rfl (Or.inl rfl) mw_13_22 mw_13_23 mw_14_0 mw_3_13 mw_14_1 yk_X8_has (by decide) (by decide) rfl (Nat.le_of_ble_eq_true rfl) rfl dX11_become_8 ?_
    refine z_if_ne 21 hf dX11_become_11 (by decide) (fun hf => ?_) (fun hf => ?_)
    · refine z_aload_n 0 dX11_become_21 rfl rfl ?_
      refine z_gP (ci := 11) (k := 1) (C := RX11) (T := TX11) (N := 14) rfl inlX11 (by decide) mw_1_19 (fun _ _ _ _ h9 => h9) hf (by decide) rfl dX11_become_22  (fun v4 hf => ?_)
      refine z_gP (ci := 1) (k := 1) (C := RX1) (T := TX1) (N := 8) rfl inlX1 (by decide) mw_12_12 (fun _ _ _ _ h9 => h9) hf (by decide) rfl dX11_become_25  (fun v5 hf => ?_)
      refine z_iload_n 1 dX11_become_28 rfl rfl ?_
      refine z_iload_n 2 dX11_become_29 rfl rfl ?_
      obtain ⟨v6, ev6, hf⟩ := ob hf
      refine z_cVi (ci := 8) (T := TX8) (N := 2) (As := [.int l1, .int l2]) (rest := []) (zm_X8_get ev6).2 (zm_X8_get ev6).1 (by decide) rfl (Or.inl rfl) mw_14_2 mw_10_11 mw_10_12 mw_3_13 mw_10_13 yk_X8_get (by decide) (by decide) rfl (Nat.le_of_ble_eq_true rfl) rfl dX11_become_30 ?_
      refine z_istore [(4, .int v6), (0, .ref l0), (1, .int l1), (2, .int l2), (3, .int l3)] dX11_become_33 (by decide) rfl ?_
      refine z_aload_n 1 dX11_become_35 rfl rfl ?_
      obtain ⟨v7, ev7, hf⟩ := ob hf
      refine z_cVv (ci := 11) (T := TX11) (N := 14) (As := []) (rest := []) (zm_X11_change ev7).2 (zm_X11_change ev7).1 (by decide) rfl (Or.inr (tg_le hE (le_X11_become_39 hf))) mw_8_7 mw_8_8 mw_8_9 mw_1_2 mw_8_10 yk_X11_change (by decide) (by decide) rfl (Nat.le_of_ble_eq_true rfl) rfl dX11_become_36 ?_
      refine z_lv [(0, .ref l0), (1, .int l1), (2, .int l2), (3, .int l3), (4, .int v6)] [1, 2, 3, 4, 0] rfl ?_
      exact zb_X11_become_39 hE hf
    · refine z_aload_n 0 dX11_become_14 rfl rfl ?_
      refine z_bipush (-2) (-2) dX11_become_15 (by decide) ?_
      obtain ⟨v8, ev8, hf⟩ := ob hf
      refine z_cVi (ci := 11) (T := TX11) (N := 14) (As := [.int (-2 : Int32)]) (rest := []) (zm_X11_refuse ev8).2 (zm_X11_refuse ev8).1 (by decide) rfl (Or.inl rfl) mw_7_22 mw_7_23 mw_8_0 mw_1_2 mw_8_1 yk_X11_refuse (by decide) (by decide) rfl (Nat.le_of_ble_eq_true rfl) rfl dX11_become_17 ?_
      cases hf
      exact z_ireturn hE rfl dX11_become_20
  · cases hf
set_option maxRecDepth 20000 in
theorem le_X7_init_7 {N : Nat} {r : AS}   {s : AS} (hf : f_X7_init_7 N  s = some r) : Le s r := by
  unfold f_X7_init_7 at hf
  cases hf
  exact Le.rf
set_option maxRecDepth 20000 in
theorem zb_X7_init_7 {N : Nat} {r : AS} {E : EV} (hE : TG E none r)    {s : AS} (hf : f_X7_init_7 N  s = some r) : Z E yX7_init cX7_init 4 none 2 s 7 [] [] := by
  unfold f_X7_init_7 at hf
  cases hf
  exact z_return hE rfl dX7_init_7
set_option maxRecDepth 20000 in
theorem lm_X7_init {N : Nat} {s : AS} {l0 : Nat} {l1 : Nat} {l2 : Int32} {l3 : Int32} {r : AS} (hf : f_X7_init N l0 l1 l2 l3 s = some r) : Le s r := by
  unfold f_X7_init at hf
  refine ite_c hf (fun hf => ?_) (fun hf => ?_)
  · skip
    obtain ⟨v1, ev1, hf⟩ := ob hf
    refine Le.of (t := (s.1, s.2)) rfl ((lm_X6_init ev1).tr ?_)
    exact Le.via (le_X7_init_7 hf) rfl
  · cases hf
set_option maxRecDepth 20000 in
theorem zm_X7_init {N : Nat} {s : AS} {l0 : Nat} {l1 : Nat} {l2 : Int32} {l3 : Int32} {r : AS} (hf : f_X7_init N l0 l1 l2 l3 s = some r) : isO s.1 l0 7 ∧ ∀ (l : Launch) (G : GG), Mt l G yX7_init cX7_init 4 none 2 [.ref l0, .ref l1, .int l2, .int l3] s none r := by
  have hf0 := hf
  unfold f_X7_init at hf
  refine ite_d hf (fun hO hf => ?_) (fun _ hf => ?_)
  · refine ⟨hO, fun l G => mt_of (Or.inl (by decide)) (Nat.le_of_ble_eq_true rfl) (lm_X7_init hf0) (fun E hE => ?_)⟩
    show Z E yX7_init cX7_init 4 none 2 s 0 [(0, .ref l0), (1, .ref l1), (2, .int l2), (3, .int l3)] []
    refine z_aload_n 0 dX7_init_0 rfl rfl ?_
    refine z_aload_n 1 dX7_init_1 rfl rfl ?_
    refine z_iload_n 2 dX7_init_2 rfl rfl ?_
    refine z_iload_n 3 dX7_init_3 rfl rfl ?_
    obtain ⟨v1, ev1, hf⟩ := ob hf
    refine z_cI (As := [.ref l1, .int l2, .int l3]) (rest := []) (zm_X6_init ev1).2 (Or.inr (tg_le hE (le_X7_init_7 hf))) mw_30_13 mw_6_9 mw_2_22 mw_6_10 rfl yk_X6_init (by decide) (by decide) rfl (Nat.le_of_ble_eq_true rfl) rfl dX7_init_4 ?_
    refine z_lv [] [] rfl ?_
    exact zb_X7_init_7 hE hf
  · cases hf
set_option maxRecDepth 20000 in
theorem le_X9_init_7 {N : Nat} {r : AS}   {s : AS} (hf : f_X9_init_7 N  s = some r) : Le s r := by
  unfold f_X9_init_7 at hf
  cases hf
  exact Le.rf
set_option maxRecDepth 20000 in
theorem zb_X9_init_7 {N : Nat} {r : AS} {E : EV} (hE : TG E none r)    {s : AS} (hf : f_X9_init_7 N  s = some r) : Z E yX9_init cX9_init 4 none 2 s 7 [] [] := by
  unfold f_X9_init_7 at hf
  cases hf
  exact z_return hE rfl dX9_init_7
set_option maxRecDepth 20000 in
theorem lm_X9_init {N : Nat} {s : AS} {l0 : Nat} {l1 : Nat} {l2 : Int32} {l3 : Int32} {r : AS} (hf : f_X9_init N l0 l1 l2 l3 s = some r) : Le s r := by
  unfold f_X9_init at hf
  refine ite_c hf (fun hf => ?_) (fun hf => ?_)
  · skip
    obtain ⟨v1, ev1, hf⟩ := ob hf
    refine Le.of (t := (s.1, s.2)) rfl ((lm_X6_init ev1).tr ?_)
    exact Le.via (le_X9_init_7 hf) rfl
  · cases hf
set_option maxRecDepth 20000 in
theorem zm_X9_init {N : Nat} {s : AS} {l0 : Nat} {l1 : Nat} {l2 : Int32} {l3 : Int32} {r : AS} (hf : f_X9_init N l0 l1 l2 l3 s = some r) : isO s.1 l0 9 ∧ ∀ (l : Launch) (G : GG), Mt l G yX9_init cX9_init 4 none 2 [.ref l0, .ref l1, .int l2, .int l3] s none r := by
  have hf0 := hf
  unfold f_X9_init at hf
  refine ite_d hf (fun hO hf => ?_) (fun _ hf => ?_)
  · refine ⟨hO, fun l G => mt_of (Or.inl (by decide)) (Nat.le_of_ble_eq_true rfl) (lm_X9_init hf0) (fun E hE => ?_)⟩
    show Z E yX9_init cX9_init 4 none 2 s 0 [(0, .ref l0), (1, .ref l1), (2, .int l2), (3, .int l3)] []
    refine z_aload_n 0 dX9_init_0 rfl rfl ?_
    refine z_aload_n 1 dX9_init_1 rfl rfl ?_
    refine z_iload_n 2 dX9_init_2 rfl rfl ?_
    refine z_iload_n 3 dX9_init_3 rfl rfl ?_
    obtain ⟨v1, ev1, hf⟩ := ob hf
    refine z_cI (As := [.ref l1, .int l2, .int l3]) (rest := []) (zm_X6_init ev1).2 (Or.inr (tg_le hE (le_X9_init_7 hf))) mw_30_17 mw_6_9 mw_2_22 mw_6_10 rfl yk_X6_init (by decide) (by decide) rfl (Nat.le_of_ble_eq_true rfl) rfl dX9_init_4 ?_
    refine z_lv [] [] rfl ?_
    exact zb_X9_init_7 hE hf
  · cases hf
