set_option maxRecDepth 20000 in
theorem zb_X11_nearness_55 {N : Nat} {sh : Sh} {d : Dt} {r : Int32} {E : EV} (hE : TG E (some (.int r)) (sh, d))   (hf : f_X11_nearness_55 N sh  d = some r) : Z E yX11_nearness cX11_nearness 6 (some .int) 2 (sh, d) 55 [] [] := by
  unfold f_X11_nearness_55 at hf
  refine z_iconst 2 2 dX11_nearness_55 (by decide) ?_
  cases hf
  exact z_ireturn hE rfl dX11_nearness_56
set_option maxRecDepth 20000 in
theorem zb_X11_nearness_88 {N : Nat} {sh : Sh} {d : Dt} {r : Int32} {E : EV} (hE : TG E (some (.int r)) (sh, d))  {t0 : Int32} (hf : f_X11_nearness_88 N sh t0 d = some r) : Z E yX11_nearness cX11_nearness 6 (some .int) 2 (sh, d) 88 [] [.int t0] := by
  unfold f_X11_nearness_88 at hf
  cases hf
  exact z_ireturn hE rfl dX11_nearness_88
set_option maxRecDepth 20000 in
theorem zb_X11_nearness_83 {N : Nat} {sh : Sh} {d : Dt} {r : Int32} {E : EV} (hE : TG E (some (.int r)) (sh, d))   (hf : f_X11_nearness_83 N sh  d = some r) : Z E yX11_nearness cX11_nearness 6 (some .int) 2 (sh, d) 83 [] [] := by
  unfold f_X11_nearness_83 at hf
  refine z_iconst 1 1 dX11_nearness_83 (by decide) ?_
  refine z_goto 88 dX11_nearness_84 (by decide) ?_
  exact zb_X11_nearness_88 hE hf
set_option maxRecDepth 20000 in
theorem zm_X11_nearness {N : Nat} {sh : Sh} {d : Dt} {l0 : Nat} {l1 : Int32} {l2 : Int32} {r : Int32} (hf : f_X11_nearness N sh l0 l1 l2 d = some r) : isO sh l0 11 ∧ ∀ (l : Launch) (G : GG), Mt l G yX11_nearness cX11_nearness 6 (some .int) 2 [.ref l0, .int l1, .int l2] (sh, d) (some (.int r)) (sh, d) := by
  have hf0 := hf
  unfold f_X11_nearness at hf
  refine ite_d hf (fun hO hf => ?_) (fun _ hf => ?_)
  · refine ⟨hO, fun l G => mt_of (Or.inl (by decide)) (Nat.le_of_ble_eq_true rfl) Le.rf (fun E hE => ?_)⟩
    show Z E yX11_nearness cX11_nearness 6 (some .int) 2 (sh, d) 0 [(0, .ref l0), (1, .int l1), (2, .int l2)] []
    refine z_aload_n 0 dX11_nearness_0 rfl rfl ?_
    refine z_gP (ci := 11) (k := 1) (C := RX11) (T := TX11) (N := 14) rfl inlX11 (by decide) mw_1_19 (fun _ _ _ _ h9 => h9) hf (by decide) rfl dX11_nearness_1  (fun v1 hf => ?_)
    refine z_gP (ci := 1) (k := 2) (C := RX1) (T := TX1) (N := 8) rfl inlX1 (by decide) mw_19_21 (fun _ _ _ _ h9 => h9) hf (by decide) rfl dX11_nearness_4  (fun v2 hf => ?_)
    refine z_iload_n 1 dX11_nearness_7 rfl rfl ?_
    refine z_iconst 0 0 dX11_nearness_8 (by decide) ?_
    obtain ⟨v3, ev3, hf⟩ := ob hf
    refine z_cVi (ci := 8) (T := TX8) (N := 2) (As := [.int l1, .int (0 : Int32)]) (rest := []) (zm_X8_get ev3).2 (zm_X8_get ev3).1 (by decide) rfl (Or.inl rfl) mw_14_2 mw_10_11 mw_10_12 mw_3_13 mw_10_13 yk_X8_get (by decide) (by decide) rfl (Nat.le_of_ble_eq_true rfl) rfl dX11_nearness_9 ?_
    refine z_istore_n [(3, .int v3), (0, .ref l0), (1, .int l1), (2, .int l2)] dX11_nearness_12 rfl (by decide) rfl ?_
    refine z_aload_n 1 dX11_nearness_13 rfl rfl ?_
    refine z_gP (ci := 11) (k := 1) (C := RX11) (T := TX11) (N := 14) rfl inlX11 (by decide) mw_1_19 (fun _ _ _ _ h9 => h9) hf (by decide) rfl dX11_nearness_14  (fun v4 hf => ?_)
    refine z_gP (ci := 1) (k := 1) (C := RX1) (T := TX1) (N := 8) rfl inlX1 (by decide) mw_12_12 (fun _ _ _ _ h9 => h9) hf (by decide) rfl dX11_nearness_17  (fun v5 hf => ?_)
    refine z_iload_n 3 dX11_nearness_20 rfl rfl ?_
    refine z_bipush 7 7 dX11_nearness_21 (by decide) ?_
    obtain ⟨v6, ev6, hf⟩ := ob hf
    refine z_cVi (ci := 8) (T := TX8) (N := 2) (As := [.int l2, .int (7 : Int32)]) (rest := []) (zm_X8_get ev6).2 (zm_X8_get ev6).1 (by decide) rfl (Or.inl rfl) mw_14_2 mw_10_11 mw_10_12 mw_3_13 mw_10_13 yk_X8_get (by decide) (by decide) rfl (Nat.le_of_ble_eq_true rfl) rfl dX11_nearness_23 ?_
    refine z_istore [(4, .int v6), (3, .int v3), (0, .ref l0), (1, .int l1), (2, .int l2)] dX11_nearness_26 (by decide) rfl ?_
    refine z_aload_n 2 dX11_nearness_28 rfl rfl ?_
    refine z_gP (ci := 11) (k := 1) (C := RX11) (T := TX11) (N := 14) rfl inlX11 (by decide) mw_1_19 (fun _ _ _ _ h9 => h9) hf (by decide) rfl dX11_nearness_29  (fun v7 hf => ?_)
    refine z_gP (ci := 1) (k := 1) (C := RX1) (T := TX1) (N := 8) rfl inlX1 (by decide) mw_12_12 (fun _ _ _ _ h9 => h9) hf (by decide) rfl dX11_nearness_32  (fun v8 hf => ?_)
    refine z_iload_n 4 dX11_nearness_35 rfl rfl ?_
    refine z_bipush 8 8 dX11_nearness_36 (by decide) ?_
    obtain ⟨v9, ev9, hf⟩ := ob hf
    refine z_cVi (ci := 8) (T := TX8) (N := 2) (As := [.int l2, .int (8 : Int32)]) (rest := []) (zm_X8_get ev9).2 (zm_X8_get ev9).1 (by decide) rfl (Or.inl rfl) mw_14_2 mw_10_11 mw_10_12 mw_3_13 mw_10_13 yk_X8_get (by decide) (by decide) rfl (Nat.le_of_ble_eq_true rfl) rfl dX11_nearness_38 ?_
    refine z_istore [(5, .int v9), (4, .int v6), (3, .int v3), (0, .ref l0), (1, .int l1), (2, .int l2)] dX11_nearness_41 (by decide) rfl ?_
    refine z_iload_n 2 dX11_nearness_43 rfl rfl ?_
    refine z_iload 1 dX11_nearness_44 rfl ?_
    refine z_icmp_eq 55 hf dX11_nearness_46 (by decide) (fun hf => ?_) (fun hf => ?_)
    · refine z_lv [] [] rfl ?_
      exact zb_X11_nearness_55 hE hf
    · refine z_iload_n 2 dX11_nearness_49 rfl rfl ?_
      refine z_iload 0 dX11_nearness_50 rfl ?_
      refine z_icmp_ne 57 hf dX11_nearness_52 (by decide) (fun hf => ?_) (fun hf => ?_)
      · refine z_aload_n 3 dX11_nearness_57 rfl rfl ?_
        refine z_gP (ci := 11) (k := 3) (C := RX11) (T := TX11) (N := 14) rfl inlX11 (by decide) mw_2_0 (fun _ _ _ _ h9 => h9) hf (by decide) rfl dX11_nearness_58  (fun v10 hf => ?_)
        refine z_iload_n 2 dX11_nearness_61 rfl rfl ?_
        refine z_iload 1 dX11_nearness_62 rfl ?_
        obtain ⟨v11, ev11, hf⟩ := ob hf
        refine z_cVi (ci := 10) (T := TX10) (N := 6) (As := [.int v3, .int v6]) (rest := []) (zm_X10_areJoined ev11).2 (zm_X10_areJoined ev11).1 (by decide) rfl (Or.inl rfl) mw_28_0 mw_28_1 mw_28_2 mw_1_23 mw_28_3 yk_X10_areJoined (by decide) (by decide) rfl (Nat.le_of_ble_eq_true rfl) rfl dX11_nearness_64 ?_
        refine z_if_ne 83 hf dX11_nearness_67 (by decide) (fun hf => ?_) (fun hf => ?_)
        · refine z_lv [] [] rfl ?_
          exact zb_X11_nearness_83 hE hf
        · refine z_aload_n 3 dX11_nearness_70 rfl rfl ?_
          refine z_gP (ci := 11) (k := 3) (C := RX11) (T := TX11) (N := 14) rfl inlX11 (by decide) mw_2_0 (fun _ _ _ _ h9 => h9) hf (by decide) rfl dX11_nearness_71  (fun v12 hf => ?_)
          refine z_iload_n 2 dX11_nearness_74 rfl rfl ?_
          refine z_iload 0 dX11_nearness_75 rfl ?_
          obtain ⟨v13, ev13, hf⟩ := ob hf
          refine z_cVi (ci := 10) (T := TX10) (N := 6) (As := [.int v3, .int v9]) (rest := []) (zm_X10_areJoined ev13).2 (zm_X10_areJoined ev13).1 (by decide) rfl (Or.inl rfl) mw_28_0 mw_28_1 mw_28_2 mw_1_23 mw_28_3 yk_X10_areJoined (by decide) (by decide) rfl (Nat.le_of_ble_eq_true rfl) rfl dX11_nearness_77 ?_
          refine z_if_eq 87 hf dX11_nearness_80 (by decide) (fun hf => ?_) (fun hf => ?_)
          · refine z_iconst 0 0 dX11_nearness_87 (by decide) ?_
            refine z_lv [] [] rfl ?_
            exact zb_X11_nearness_88 hE hf
          · refine z_lv [] [] rfl ?_
            exact zb_X11_nearness_83 hE hf
      · refine z_lv [] [] rfl ?_
        exact zb_X11_nearness_55 hE hf
  · cases hf
set_option maxRecDepth 20000 in
theorem zb_X11_fallOn_164 {N : Nat} {sh : Sh} {r : Int32 × Dt} {E : EV} (hE : TG E (some (.int r.1)) (sh, r.2))  {l4 : Int32} {t0 : Nat} {t1 : Int32} {t2 : Int32} {t3 : Int32} {d : Dt} (hf : f_X11_fallOn_164 N sh l4 t0 t1 t2 t3 d = some r) : Z E yX11_fallOn cX11_fallOn 6 (some .boolean) 3 (sh, d) 164 [(4, .int l4)] [.int t3, .int t2, .int t1, .ref t0] := by
  unfold f_X11_fallOn_164 at hf
  obtain ⟨v22, ev22, hf⟩ := ob hf
  refine z_cVv (ci := 8) (T := TX8) (N := 2) (As := [.int t1, .int t2, .int t3]) (rest := []) (zm_X8_put ev22).2 (zm_X8_put ev22).1 (by decide) rfl (Or.inl rfl) mw_12_22 mw_12_23 mw_13_0 mw_3_13 mw_13_1 yk_X8_put (by decide) (by decide) rfl (Nat.le_of_ble_eq_true rfl) rfl dX11_fallOn_164 ?_
  refine z_iload 0 dX11_fallOn_167 rfl ?_
  obtain ⟨v23, ev23, hg⟩ := ob hf
  obtain ⟨rfl, hbv23⟩ := o_bool_spec ev23
  cases hg
  exact z_zreturn hE rfl hbv23 dX11_fallOn_169
set_option maxRecDepth 20000 in
theorem zb_X11_fallOn_145 {N : Nat} {sh : Sh} {r : Int32 × Dt} {E : EV} (hE : TG E (some (.int r.1)) (sh, r.2))  {l0 : Nat} {l1 : Int32} {l4 : Int32} {d : Dt} (hf : f_X11_fallOn_145 N sh l0 l1 l4 d = some r) : Z E yX11_fallOn cX11_fallOn 6 (some .boolean) 3 (sh, d) 145 [(0, .ref l0), (1, .int l1), (4, .int l4)] [] := by
  unfold f_X11_fallOn_145 at hf
  refine z_aload_n 0 dX11_fallOn_145 rfl rfl ?_
  refine z_gP (ci := 11) (k := 1) (C := RX11) (T := TX11) (N := 14) rfl inlX11 (by decide) mw_1_19 (fun _ _ _ _ h9 => h9) hf (by decide) rfl dX11_fallOn_146  (fun v20 hf => ?_)
  refine z_gP (ci := 1) (k := 1) (C := RX1) (T := TX1) (N := 8) rfl inlX1 (by decide) mw_12_12 (fun _ _ _ _ h9 => h9) hf (by decide) rfl dX11_fallOn_149  (fun v21 hf => ?_)
  refine z_iload_n 1 dX11_fallOn_152 rfl rfl ?_
  refine z_iconst 1 1 dX11_fallOn_153 (by decide) ?_
  refine z_iload 2 dX11_fallOn_154 rfl ?_
  refine z_if_eq 163 hf dX11_fallOn_156 (by decide) (fun hf => ?_) (fun hf => ?_)
  · refine z_iconst 1 1 dX11_fallOn_163 (by decide) ?_
    refine z_lv [(4, .int l4)] [2] rfl ?_
    exact zb_X11_fallOn_164 hE hf
  · refine z_iconst 0 0 dX11_fallOn_159 (by decide) ?_
    refine z_goto 164 dX11_fallOn_160 (by decide) ?_
    refine z_lv [(4, .int l4)] [2] rfl ?_
    exact zb_X11_fallOn_164 hE hf
set_option maxRecDepth 20000 in
theorem zb_X11_fallOn_89 {N : Nat} {sh : Sh} {r : Int32 × Dt} {E : EV} (hE : TG E (some (.int r.1)) (sh, r.2))  {l0 : Nat} {l1 : Int32} {l2 : UInt32} {l3 : UInt32} {t0 : Int32} {d : Dt} (hf : f_X11_fallOn_89 N sh l0 l1 l2 l3 t0 d = some r) : Z E yX11_fallOn cX11_fallOn 6 (some .boolean) 3 (sh, d) 89 [(0, .ref l0), (1, .int l1), (2, .float l2), (3, .float l3)] [.int t0] := by
  unfold f_X11_fallOn_89 at hf
  refine z_istore [(4, .int t0), (0, .ref l0), (1, .int l1), (2, .float l2), (3, .float l3)] dX11_fallOn_89 (by decide) rfl ?_
  refine z_iload 0 dX11_fallOn_91 rfl ?_
  refine z_if_eq 145 hf dX11_fallOn_93 (by decide) (fun hf => ?_) (fun hf => ?_)
  · refine z_lv [(0, .ref l0), (1, .int l1), (4, .int t0)] [1, 2, 0] rfl ?_
    exact zb_X11_fallOn_145 hE hf
  · refine z_ldcw mw_27_17 dX11_fallOn_96 ?_
    refine z_fload_n 3 dX11_fallOn_99 rfl rfl ?_
    refine z_fload_n 4 dX11_fallOn_100 rfl rfl ?_
    refine z_fdiv hf dX11_fallOn_101  (fun v12 hf => ?_)
    refine z_ldcwf mw_27_18 dX11_fallOn_102 ?_
    refine z_fmul hf dX11_fallOn_105  (fun v13 hf => ?_)
    refine z_f2i dX11_fallOn_106 ?_
    refine z_min mw_27_19 mw_9_20 mw_8_22 mw_9_21 (by decide) (Nat.le_of_ble_eq_true rfl) dX11_fallOn_107 ?_
    refine z_istore [(5, .int (o_min (100000 : Int32) (FP.f2i v13))), (4, .int t0), (0, .ref l0), (1, .int l1), (2, .float l2), (3, .float l3)] dX11_fallOn_110 (by decide) rfl ?_
    refine z_aload_n 2 dX11_fallOn_112 rfl rfl ?_
    refine z_gP (ci := 11) (k := 1) (C := RX11) (T := TX11) (N := 14) rfl inlX11 (by decide) mw_1_19 (fun _ _ _ _ h9 => h9) hf (by decide) rfl dX11_fallOn_113  (fun v14 hf => ?_)
    refine z_gP (ci := 1) (k := 1) (C := RX1) (T := TX1) (N := 8) rfl inlX1 (by decide) mw_12_12 (fun _ _ _ _ h9 => h9) hf (by decide) rfl dX11_fallOn_116  (fun v15 hf => ?_)
    refine z_iload_n 3 dX11_fallOn_119 rfl rfl ?_
    refine z_iconst 0 0 dX11_fallOn_120 (by decide) ?_
    refine z_ldcw mw_27_17 dX11_fallOn_121 ?_
    refine z_aload_n 2 dX11_fallOn_124 rfl rfl ?_
    refine z_gP (ci := 11) (k := 1) (C := RX11) (T := TX11) (N := 14) rfl inlX11 (by decide) mw_1_19 (fun _ _ _ _ h9 => h9) hf (by decide) rfl dX11_fallOn_125  (fun v16 hf => ?_)
    refine z_gP (ci := 1) (k := 1) (C := RX1) (T := TX1) (N := 8) rfl inlX1 (by decide) mw_12_12 (fun _ _ _ _ h9 => h9) hf (by decide) rfl dX11_fallOn_128  (fun v17 hf => ?_)
    refine z_iload_n 3 dX11_fallOn_131 rfl rfl ?_
    refine z_iconst 0 0 dX11_fallOn_132 (by decide) ?_
    obtain ⟨v18, ev18, hf⟩ := ob hf
    refine z_cVi (ci := 8) (T := TX8) (N := 2) (As := [.int l1, .int (0 : Int32)]) (rest := [.int (100000 : Int32), .int (0 : Int32), .int l1, .ref v15]) (zm_X8_get ev18).2 (zm_X8_get ev18).1 (by decide) rfl (Or.inl rfl) mw_14_2 mw_10_11 mw_10_12 mw_3_13 mw_10_13 yk_X8_get (by decide) (by decide) rfl (Nat.le_of_ble_eq_true rfl) rfl dX11_fallOn_133 ?_
    refine z_iload 0 dX11_fallOn_136 rfl ?_
    refine z_iadd dX11_fallOn_138 ?_
    refine z_min mw_27_19 mw_9_20 mw_8_22 mw_9_21 (by decide) (Nat.le_of_ble_eq_true rfl) dX11_fallOn_139 ?_
    obtain ⟨v19, ev19, hf⟩ := ob hf
    refine z_cVv (ci := 8) (T := TX8) (N := 2) (As := [.int l1, .int (0 : Int32), .int (o_min (100000 : Int32) (v18 + (o_min (100000 : Int32) (FP.f2i v13))))]) (rest := []) (zm_X8_put ev19).2 (zm_X8_put ev19).1 (by decide) rfl (Or.inl rfl) mw_12_22 mw_12_23 mw_13_0 mw_3_13 mw_13_1 yk_X8_put (by decide) (by decide) rfl (Nat.le_of_ble_eq_true rfl) rfl dX11_fallOn_142 ?_
    refine z_lv [(0, .ref l0), (1, .int l1), (4, .int t0)] [2, 3, 1] rfl ?_
    exact zb_X11_fallOn_145 hE hf
set_option maxRecDepth 20000 in
theorem zb_X11_fallOn_78 {N : Nat} {sh : Sh} {r : Int32 × Dt} {E : EV} (hE : TG E (some (.int r.1)) (sh, r.2))  {l0 : Nat} {l1 : Int32} {l2 : UInt32} {l3 : UInt32} {d : Dt} (hf : f_X11_fallOn_78 N sh l0 l1 l2 l3 d = some r) : Z E yX11_fallOn cX11_fallOn 6 (some .boolean) 3 (sh, d) 78 [(0, .ref l0), (1, .int l1), (2, .float l2), (3, .float l3)] [] := by
  unfold f_X11_fallOn_78 at hf
  refine z_fload_n 3 dX11_fallOn_78 rfl rfl ?_
  refine z_fconst0 dX11_fallOn_79 ?_
  refine z_fcmp dX11_fallOn_80 ?_
  refine z_if_le 88 hf dX11_fallOn_81 (by decide) (fun hf => ?_) (fun hf => ?_)
  · refine z_iconst 0 0 dX11_fallOn_88 (by decide) ?_
    exact zb_X11_fallOn_89 hE hf
  · refine z_iconst 1 1 dX11_fallOn_84 (by decide) ?_
    refine z_goto 89 dX11_fallOn_85 (by decide) ?_
    exact zb_X11_fallOn_89 hE hf
set_option maxRecDepth 20000 in
theorem zb_X11_fallOn_72 {N : Nat} {sh : Sh} {k7 : Nat → Int32 → UInt32 → UInt32 → Int32 → Dt → Option (Int32 × Dt)} {r : Int32 × Dt} {E : EV} (hE : TG E (some (.int r.1)) (sh, r.2)) (hk7 : ∀ (l0 : Nat) (l1 : Int32) (l2 : UInt32) (l3 : UInt32) (l4 : Int32) (d : Dt), k7 l0 l1 l2 l3 l4 d = some r → Z E yX11_fallOn cX11_fallOn 6 (some .boolean) 3 (sh, d) 7 [(0, .ref l0), (1, .int l1), (2, .float l2), (3, .float l3), (4, .int l4)] []) {l0 : Nat} {l1 : Int32} {l2 : UInt32} {l3 : UInt32} {l4 : Int32} {d : Dt} (hf : f_X11_fallOn_72 N sh k7 l0 l1 l2 l3 l4 d = some r) : Z E yX11_fallOn cX11_fallOn 6 (some .boolean) 3 (sh, d) 72 [(0, .ref l0), (1, .int l1), (2, .float l2), (3, .float l3), (4, .int l4)] [] := by
  unfold f_X11_fallOn_72 at hf
  refine z_iinc [(4, .int (l4 + 1)), (0, .ref l0), (1, .int l1), (2, .float l2), (3, .float l3)] 4 (l4 + 1) dX11_fallOn_72 rfl rfl (by decide) rfl ?_
  refine z_goto 7 dX11_fallOn_75 (by decide) ?_
  refine z_lv [(0, .ref l0), (1, .int l1), (2, .float l2), (3, .float l3), (4, .int (l4 + 1))] [1, 2, 3, 4, 0] rfl ?_
  exact hk7 _ _ _ _ _ _ hf
set_option maxRecDepth 20000 in
theorem zb_X11_fallOn_45 {N : Nat} {sh : Sh} {k7 : Nat → Int32 → UInt32 → UInt32 → Int32 → Dt → Option (Int32 × Dt)} {r : Int32 × Dt} {E : EV} (hE : TG E (some (.int r.1)) (sh, r.2)) (hk7 : ∀ (l0 : Nat) (l1 : Int32) (l2 : UInt32) (l3 : UInt32) (l4 : Int32) (d : Dt), k7 l0 l1 l2 l3 l4 d = some r → Z E yX11_fallOn cX11_fallOn 6 (some .boolean) 3 (sh, d) 7 [(0, .ref l0), (1, .int l1), (2, .float l2), (3, .float l3), (4, .int l4)] []) {l0 : Nat} {l1 : Int32} {l2 : UInt32} {l3 : UInt32} {l4 : Int32} {t0 : Int32} {d : Dt} (hf : f_X11_fallOn_45 N sh k7 l0 l1 l2 l3 l4 t0 d = some r) : Z E yX11_fallOn cX11_fallOn 6 (some .boolean) 3 (sh, d) 45 [(0, .ref l0), (1, .int l1), (2, .float l2), (3, .float l3), (4, .int l4)] [.int t0] := by
  unfold f_X11_fallOn_45 at hf
  refine z_istore [(5, .int t0), (0, .ref l0), (1, .int l1), (2, .float l2), (3, .float l3), (4, .int l4)] dX11_fallOn_45 (by decide) rfl ?_
  refine z_iload 0 dX11_fallOn_47 rfl ?_
  refine z_if_le 72 hf dX11_fallOn_49 (by decide) (fun hf => ?_) (fun hf => ?_)
  · refine z_lv [(0, .ref l0), (1, .int l1), (2, .float l2), (3, .float l3), (4, .int l4)] [1, 2, 3, 4, 5] rfl ?_
    exact zb_X11_fallOn_72 hE hk7 hf
  · refine z_fload_n 3 dX11_fallOn_52 rfl rfl ?_
    refine z_aload_n 1 dX11_fallOn_53 rfl rfl ?_
    refine z_gP (ci := 11) (k := 7) (C := RX11) (T := TX11) (N := 14) rfl inlX11 (by decide) mw_2_12 (fun _ _ _ _ h9 => h9) hf (by decide) rfl dX11_fallOn_54  (fun v7 hf => ?_)
    refine z_iload 5 dX11_fallOn_57 rfl ?_
    refine z_aF hf dX11_fallOn_59  (fun v8 hf => ?_)
    refine z_iload 0 dX11_fallOn_60 rfl ?_
    refine z_i2f dX11_fallOn_62 ?_
    refine z_fmul hf dX11_fallOn_63  (fun v9 hf => ?_)
    refine z_fadd hf dX11_fallOn_64  (fun v10 hf => ?_)
    refine z_fstore_n [(2, .float v10), (5, .int t0), (0, .ref l0), (1, .int l1), (3, .float l3), (4, .int l4)] dX11_fallOn_65 rfl (by decide) rfl ?_
    refine z_fload_n 4 dX11_fallOn_66 rfl rfl ?_
    refine z_iload 1 dX11_fallOn_67 rfl ?_
    refine z_i2f dX11_fallOn_69 ?_
    refine z_fadd hf dX11_fallOn_70  (fun v11 hf => ?_)
    refine z_fstore_n [(3, .float v11), (2, .float v10), (5, .int t0), (0, .ref l0), (1, .int l1), (4, .int l4)] dX11_fallOn_71 rfl (by decide) rfl ?_
    refine z_lv [(0, .ref l0), (1, .int l1), (2, .float v10), (3, .float v11), (4, .int l4)] [3, 4, 1, 0, 5] rfl ?_
    exact zb_X11_fallOn_72 hE hk7 hf
set_option maxRecDepth 20000 in
theorem zg_X11_fallOn_7 {N : Nat} {sh : Sh} {r : Int32 × Dt} {k7 : Nat → Int32 → UInt32 → UInt32 → Int32 → Dt → Option (Int32 × Dt)} {E : EV} (hE : TG E (some (.int r.1)) (sh, r.2))  (hk7 : ∀ (l0 : Nat) (l1 : Int32) (l2 : UInt32) (l3 : UInt32) (l4 : Int32) (d : Dt), k7 l0 l1 l2 l3 l4 d = some r → Z E yX11_fallOn cX11_fallOn 6 (some .boolean) 3 (sh, d) 7 [(0, .ref l0), (1, .int l1), (2, .float l2), (3, .float l3), (4, .int l4)] []) {l0 : Nat} {l1 : Int32} {l2 : UInt32} {l3 : UInt32} {l4 : Int32} {d : Dt} (hf : g_X11_fallOn_7 N sh k7 l0 l1 l2 l3 l4 d = some r) : Z E yX11_fallOn cX11_fallOn 6 (some .boolean) 3 (sh, d) 7 [(0, .ref l0), (1, .int l1), (2, .float l2), (3, .float l3), (4, .int l4)] [] := by
  unfold g_X11_fallOn_7 at hf
  refine z_iload 4 dX11_fallOn_7 rfl ?_
  refine z_aload_n 0 dX11_fallOn_9 rfl rfl ?_
  refine z_gP (ci := 11) (k := 1) (C := RX11) (T := TX11) (N := 14) rfl inlX11 (by decide) mw_1_19 (fun _ _ _ _ h9 => h9) hf (by decide) rfl dX11_fallOn_10  (fun v1 hf => ?_)
  refine z_gP (ci := 1) (k := 2) (C := RX1) (T := TX1) (N := 8) rfl inlX1 (by decide) mw_19_21 (fun _ _ _ _ h9 => h9) hf (by decide) rfl dX11_fallOn_13  (fun v2 hf => ?_)
  refine z_gI (ci := 8) (k := 1) (C := RX8) (T := TX8) (N := 2) rfl inlX8 (by decide) mw_12_13 (fun _ _ _ _ h9 => h9) hf (by decide) rfl dX11_fallOn_16  (fun v3 hf => ?_)
  refine z_icmp_ge 78 hf dX11_fallOn_19 (by decide) (fun hf => ?_) (fun hf => ?_)
  · refine z_lv [(0, .ref l0), (1, .int l1), (2, .float l2), (3, .float l3)] [0, 1, 2, 3] rfl ?_
    exact zb_X11_fallOn_78 hE hf
  · refine z_aload_n 0 dX11_fallOn_22 rfl rfl ?_
    refine z_gP (ci := 11) (k := 7) (C := RX11) (T := TX11) (N := 14) rfl inlX11 (by decide) mw_2_12 (fun _ _ _ _ h9 => h9) hf (by decide) rfl dX11_fallOn_23  (fun v4 hf => ?_)
    refine z_iload 4 dX11_fallOn_26 rfl ?_
    refine z_aF hf dX11_fallOn_28  (fun v5 hf => ?_)
    refine z_fconst0 dX11_fallOn_29 ?_
    refine z_fcmp dX11_fallOn_30 ?_
    refine z_if_ge 38 hf dX11_fallOn_31 (by decide) (fun hf => ?_) (fun hf => ?_)
    · refine z_aload_n 0 dX11_fallOn_38 rfl rfl ?_
      refine z_iload 4 dX11_fallOn_39 rfl ?_
      refine z_iload_n 1 dX11_fallOn_41 rfl rfl ?_
      obtain ⟨v6, ev6, hf⟩ := ob hf
      refine z_cVi (ci := 11) (T := TX11) (N := 14) (As := [.int l4, .int l1]) (rest := []) (zm_X11_nearness ev6).2 (zm_X11_nearness ev6).1 (by decide) rfl (Or.inl rfl) mw_27_20 mw_27_21 mw_27_22 mw_1_2 mw_27_23 yk_X11_nearness (by decide) (by decide) rfl (Nat.le_of_ble_eq_true rfl) rfl dX11_fallOn_42 ?_
      exact zb_X11_fallOn_45 hE hk7 hf
    · refine z_iconst 0 0 dX11_fallOn_34 (by decide) ?_
      refine z_goto 45 dX11_fallOn_35 (by decide) ?_
      exact zb_X11_fallOn_45 hE hk7 hf
set_option maxRecDepth 20000 in
theorem zb_X11_fallOn_7 {N : Nat} {sh : Sh} {r : Int32 × Dt} {E : EV} (hE : TG E (some (.int r.1)) (sh, r.2))  : ∀ (n : Nat) (l0 : Nat) (l1 : Int32) (l2 : UInt32) (l3 : UInt32) (l4 : Int32) (d : Dt), f_X11_fallOn_7 N sh n l0 l1 l2 l3 l4 d = some r → Z E yX11_fallOn cX11_fallOn 6 (some .boolean) 3 (sh, d) 7 [(0, .ref l0), (1, .int l1), (2, .float l2), (3, .float l3), (4, .int l4)] [] := by
  intro n
  induction n with
  | zero => intro l0 l1 l2 l3 l4 d hf; cases hf
  | succ n ih => intro l0 l1 l2 l3 l4 d hf; exact zg_X11_fallOn_7 hE ih hf
set_option maxRecDepth 20000 in
theorem zm_X11_fallOn {N : Nat} {sh : Sh} {d : Dt} {l0 : Nat} {l1 : Int32} {r : Int32 × Dt} (hf : f_X11_fallOn N sh l0 l1 d = some r) : isO sh l0 11 ∧ ∀ (l : Launch) (G : GG), Mt l G yX11_fallOn cX11_fallOn 6 (some .boolean) 3 [.ref l0, .int l1] (sh, d) (some (.int r.1)) (sh, r.2) := by
  have hf0 := hf
  unfold f_X11_fallOn at hf
  refine ite_d hf (fun hO hf => ?_) (fun _ hf => ?_)
  · refine ⟨hO, fun l G => mt_of (Or.inl (by decide)) (Nat.le_of_ble_eq_true rfl) Le.rf (fun E hE => ?_)⟩
    show Z E yX11_fallOn cX11_fallOn 6 (some .boolean) 3 (sh, d) 0 [(0, .ref l0), (1, .int l1)] []
    refine z_fconst0 dX11_fallOn_0 ?_
    refine z_fstore_n [(2, .float FP.fconst0), (0, .ref l0), (1, .int l1)] dX11_fallOn_1 rfl (by decide) rfl ?_
    refine z_fconst0 dX11_fallOn_2 ?_
    refine z_fstore_n [(3, .float FP.fconst0), (2, .float FP.fconst0), (0, .ref l0), (1, .int l1)] dX11_fallOn_3 rfl (by decide) rfl ?_
    refine z_iconst 0 0 dX11_fallOn_4 (by decide) ?_
    refine z_istore [(4, .int (0 : Int32)), (3, .float FP.fconst0), (2, .float FP.fconst0), (0, .ref l0), (1, .int l1)] dX11_fallOn_5 (by decide) rfl ?_
    refine z_lv [(0, .ref l0), (1, .int l1), (2, .float FP.fconst0), (3, .float FP.fconst0), (4, .int (0 : Int32))] [3, 4, 2, 1, 0] rfl ?_
    exact zb_X11_fallOn_7 hE N _ _ _ _ _ _ hf
  · cases hf
set_option maxRecDepth 20000 in
theorem zb_X11_findings_30 {N : Nat} {sh : Sh} {d : Dt} {r : Int32} {E : EV} (hE : TG E (some (.int r)) (sh, d))  {t0 : Int32} (hf : f_X11_findings_30 N sh t0 d = some r) : Z E yX11_findings cX11_findings 2 (some .int) 1 (sh, d) 30 [] [.int t0] := by
  unfold f_X11_findings_30 at hf
  cases hf
  exact z_ireturn hE rfl dX11_findings_30
set_option maxRecDepth 20000 in
theorem zb_X11_findings_28 {N : Nat} {sh : Sh} {d : Dt} {r : Int32} {E : EV} (hE : TG E (some (.int r)) (sh, d))   (hf : f_X11_findings_28 N sh  d = some r) : Z E yX11_findings cX11_findings 2 (some .int) 1 (sh, d) 28 [] [] := by
  unfold f_X11_findings_28 at hf
  refine z_bipush (-2) (-2) dX11_findings_28 (by decide) ?_
  exact zb_X11_findings_30 hE hf
set_option maxRecDepth 20000 in
theorem zm_X11_findings {N : Nat} {sh : Sh} {d : Dt} {l0 : Nat} {l1 : Int32} {r : Int32} (hf : f_X11_findings N sh l0 l1 d = some r) : isO sh l0 11 ∧ ∀ (l : Launch) (G : GG), Mt l G yX11_findings cX11_findings 2 (some .int) 1 [.ref l0, .int l1] (sh, d) (some (.int r)) (sh, d) := by
  have hf0 := hf
  unfold f_X11_findings at hf
  refine ite_d hf (fun hO hf => ?_) (fun _ hf => ?_)
  · refine ⟨hO, fun l G => mt_of (Or.inl (by decide)) (Nat.le_of_ble_eq_true rfl) Le.rf (fun E hE => ?_)⟩
    show Z E yX11_findings cX11_findings 2 (some .int) 1 (sh, d) 0 [(0, .ref l0), (1, .int l1)] []
    refine z_iload_n 1 dX11_findings_0 rfl rfl ?_
    refine z_if_lt 28 hf dX11_findings_1 (by decide) (fun hf => ?_) (fun hf => ?_)
    · refine z_lv [] [] rfl ?_
      exact zb_X11_findings_28 hE hf
    · refine z_iload_n 1 dX11_findings_4 rfl rfl ?_
      refine z_aload_n 0 dX11_findings_5 rfl rfl ?_
      refine z_gP (ci := 11) (k := 0) (C := RX11) (T := TX11) (N := 14) rfl inlX11 (by decide) mw_1_15 (fun _ _ _ _ h9 => h9) hf (by decide) rfl dX11_findings_6  (fun v1 hf => ?_)
      refine z_gP (ci := 2) (k := 0) (C := RX2) (T := TX2) (N := 4) rfl inlX2 (by decide) mw_58_20 (fun _ _ _ _ h9 => h9) hf (by decide) rfl dX11_findings_9  (fun v2 hf => ?_)
      refine z_aLen hf dX11_findings_12  (fun v3 hf => ?_)
      refine z_icmp_ge 28 hf dX11_findings_13 (by decide) (fun hf => ?_) (fun hf => ?_)
      · refine z_lv [] [] rfl ?_
        exact zb_X11_findings_28 hE hf
      · refine z_aload_n 0 dX11_findings_16 rfl rfl ?_
        refine z_gP (ci := 11) (k := 0) (C := RX11) (T := TX11) (N := 14) rfl inlX11 (by decide) mw_1_15 (fun _ _ _ _ h9 => h9) hf (by decide) rfl dX11_findings_17  (fun v4 hf => ?_)
        refine z_gP (ci := 2) (k := 0) (C := RX2) (T := TX2) (N := 4) rfl inlX2 (by decide) mw_58_20 (fun _ _ _ _ h9 => h9) hf (by decide) rfl dX11_findings_20  (fun v5 hf => ?_)
        refine z_iload_n 1 dX11_findings_23 rfl rfl ?_
        refine z_aI hf dX11_findings_24  (fun v6 hf => ?_)
        refine z_goto 30 dX11_findings_25 (by decide) ?_
        refine z_lv [] [] rfl ?_
        exact zb_X11_findings_30 hE hf
  · cases hf
set_option maxRecDepth 20000 in
theorem zb_X1_hasCrossing_17 {N : Nat} {sh : Sh} {d : Dt} {r : Int32} {E : EV} (hE : TG E (some (.int r)) (sh, d))  {t0 : Int32} (hf : f_X1_hasCrossing_17 N sh t0 d = some r) : Z E yX1_hasCrossing cX1_hasCrossing 2 (some .boolean) 1 (sh, d) 17 [] [.int t0] := by
  unfold f_X1_hasCrossing_17 at hf
  obtain ⟨v2, ev2, hg⟩ := ob hf
  obtain ⟨rfl, hbv2⟩ := o_bool_spec ev2
  cases hg
  exact z_zreturn hE rfl hbv2 dX1_hasCrossing_17
set_option maxRecDepth 20000 in
theorem zb_X1_hasCrossing_16 {N : Nat} {sh : Sh} {d : Dt} {r : Int32} {E : EV} (hE : TG E (some (.int r)) (sh, d))   (hf : f_X1_hasCrossing_16 N sh  d = some r) : Z E yX1_hasCrossing cX1_hasCrossing 2 (some .boolean) 1 (sh, d) 16 [] [] := by
  unfold f_X1_hasCrossing_16 at hf
  refine z_iconst 0 0 dX1_hasCrossing_16 (by decide) ?_
  exact zb_X1_hasCrossing_17 hE hf
set_option maxRecDepth 20000 in
theorem zm_X1_hasCrossing {N : Nat} {sh : Sh} {d : Dt} {l0 : Nat} {l1 : Int32} {r : Int32} (hf : f_X1_hasCrossing N sh l0 l1 d = some r) : isO sh l0 1 ∧ ∀ (l : Launch) (G : GG), Mt l G yX1_hasCrossing cX1_hasCrossing 2 (some .boolean) 1 [.ref l0, .int l1] (sh, d) (some (.int r)) (sh, d) := by
  have hf0 := hf
  unfold f_X1_hasCrossing at hf
  refine ite_d hf (fun hO hf => ?_) (fun _ hf => ?_)
  · refine ⟨hO, fun l G => mt_of (Or.inl (by decide)) (Nat.le_of_ble_eq_true rfl) Le.rf (fun E hE => ?_)⟩
    show Z E yX1_hasCrossing cX1_hasCrossing 2 (some .boolean) 1 (sh, d) 0 [(0, .ref l0), (1, .int l1)] []
    refine z_iload_n 1 dX1_hasCrossing_0 rfl rfl ?_
    refine z_if_lt 16 hf dX1_hasCrossing_1 (by decide) (fun hf => ?_) (fun hf => ?_)
    · refine z_lv [] [] rfl ?_
      exact zb_X1_hasCrossing_16 hE hf
    · refine z_iload_n 1 dX1_hasCrossing_4 rfl rfl ?_
      refine z_aload_n 0 dX1_hasCrossing_5 rfl rfl ?_
      refine z_gI (ci := 1) (k := 0) (C := RX1) (T := TX1) (N := 8) rfl inlX1 (by decide) mw_3_10 (fun _ _ _ _ h9 => h9) hf (by decide) rfl dX1_hasCrossing_6  (fun v1 hf => ?_)
      refine z_icmp_ge 16 hf dX1_hasCrossing_9 (by decide) (fun hf => ?_) (fun hf => ?_)
      · refine z_lv [] [] rfl ?_
        exact zb_X1_hasCrossing_16 hE hf
      · refine z_iconst 1 1 dX1_hasCrossing_12 (by decide) ?_
        refine z_goto 17 dX1_hasCrossing_13 (by decide) ?_
        refine z_lv [] [] rfl ?_
        exact zb_X1_hasCrossing_17 hE hf
  · cases hf
set_option maxRecDepth 20000 in
theorem le_X1_addGauge_50 {N : Nat} {r : Int32 × AS}  {l3 : Int32} {s : AS} (hf : f_X1_addGauge_50 N l3 s = some r) : Le s r.2 := by
  unfold f_X1_addGauge_50 at hf
  cases hf
  exact Le.rf
set_option maxRecDepth 20000 in
theorem zb_X1_addGauge_50 {N : Nat} {r : Int32 × AS} {E : EV} (hE : TG E (some (.int r.1)) r.2)   {l3 : Int32} {s : AS} (hf : f_X1_addGauge_50 N l3 s = some r) : Z E yX1_addGauge cX1_addGauge 4 (some .int) 4 s 50 [(3, .int l3)] [] := by
  unfold f_X1_addGauge_50 at hf
  refine z_iload_n 0 dX1_addGauge_50 rfl rfl ?_
  cases hf
  exact z_ireturn hE rfl dX1_addGauge_51
set_option maxRecDepth 20000 in
theorem le_X1_addGauge_33 {N : Nat} {r : Int32 × AS}  {l0 : Nat} {l3 : Int32} {t0 : Nat} {t1 : Int32} {t2 : Int32} {t3 : Int32} {s : AS} (hf : f_X1_addGauge_33 N l0 l3 t0 t1 t2 t3 s = some r) : Le s r.2 := by
  unfold f_X1_addGauge_33 at hf
  obtain ⟨v6, -, hf⟩ := ob hf
  obtain ⟨v7, -, hf⟩ := ob hf
  obtain ⟨v8, -, hf⟩ := ob hf
  obtain ⟨v9, ev9, hf⟩ := ob hf
  refine Le.of (t := (s.1, v8)) rfl ((lm_X1_widenCells ev9).tr ?_)
  exact Le.via (le_X1_addGauge_50 hf) rfl
set_option maxRecDepth 20000 in
theorem zb_X1_addGauge_33 {N : Nat} {r : Int32 × AS} {E : EV} (hE : TG E (some (.int r.1)) r.2)   {l0 : Nat} {l3 : Int32} {t0 : Nat} {t1 : Int32} {t2 : Int32} {t3 : Int32} {s : AS} (hf : f_X1_addGauge_33 N l0 l3 t0 t1 t2 t3 s = some r) : Z E yX1_addGauge cX1_addGauge 4 (some .int) 4 s 33 [(0, .ref l0), (3, .int l3)] [.int t3, .int t2, .int t1, .ref t0] := by
  unfold f_X1_addGauge_33 at hf
  obtain ⟨v6, ev6, hf⟩ := ob hf
  refine z_cVv (ci := 8) (T := TX8) (N := 2) (As := [.int t1, .int t2, .int t3]) (rest := []) (zm_X8_put ev6).2 (zm_X8_put ev6).1 (by decide) rfl (Or.inl rfl) mw_20_3 mw_12_23 mw_13_0 mw_3_13 mw_13_1 yk_X8_put (by decide) (by decide) rfl (Nat.le_of_ble_eq_true rfl) rfl dX1_addGauge_33 ?_
  refine z_aload_n 0 dX1_addGauge_36 rfl rfl ?_
  refine z_gP (ci := 1) (k := 2) (C := RX1) (T := TX1) (N := 8) rfl inlX1 (by decide) mw_3_15 (fun _ _ _ _ h9 => h9) hf (by decide) rfl dX1_addGauge_37  (fun v7 hf => ?_)
  refine z_iload_n 1 dX1_addGauge_40 rfl rfl ?_
  refine z_iconst 2 2 dX1_addGauge_41 (by decide) ?_
  refine z_iconst (-1) (-1) dX1_addGauge_42 (by decide) ?_
  obtain ⟨v8, ev8, hf⟩ := ob hf
  refine z_cVv (ci := 8) (T := TX8) (N := 2) (As := [.int l3, .int (2 : Int32), .int (-1 : Int32)]) (rest := []) (zm_X8_put ev8).2 (zm_X8_put ev8).1 (by decide) rfl (Or.inl rfl) mw_20_3 mw_12_23 mw_13_0 mw_3_13 mw_13_1 yk_X8_put (by decide) (by decide) rfl (Nat.le_of_ble_eq_true rfl) rfl dX1_addGauge_43 ?_
  refine z_aload_n 0 dX1_addGauge_46 rfl rfl ?_
  obtain ⟨v9, ev9, hf⟩ := ob hf
  refine z_cVv (ci := 1) (T := TX1) (N := 8) (As := []) (rest := []) (zm_X1_widenCells ev9).2 (zm_X1_widenCells ev9).1 (by decide) rfl (Or.inr (tg_le hE (le_X1_addGauge_50 hf))) mw_9_23 mw_10_0 mw_10_1 mw_1_18 mw_10_2 yk_X1_widenCells (by decide) (by decide) rfl (Nat.le_of_ble_eq_true rfl) rfl dX1_addGauge_47 ?_
  refine z_lv [(3, .int l3)] [1] rfl ?_
  exact zb_X1_addGauge_50 hE hf
set_option maxRecDepth 20000 in
theorem le_X1_addGauge_7 {N : Nat} {r : Int32 × AS}  {l0 : Nat} {l1 : Int32} {l2 : Int32} {t0 : Int32} {s : AS} (hf : f_X1_addGauge_7 N l0 l1 l2 t0 s = some r) : Le s r.2 := by
  unfold f_X1_addGauge_7 at hf
  obtain ⟨v3, -, hf⟩ := ob hf
  obtain ⟨v4, -, hf⟩ := ob hf
  obtain ⟨v5, -, hf⟩ := ob hf
  refine ite_c hf (fun hf => ?_) (fun hf => ?_)
  · exact Le.via (le_X1_addGauge_33 hf) rfl
  · exact Le.via (le_X1_addGauge_33 hf) rfl
set_option maxRecDepth 20000 in
theorem zb_X1_addGauge_7 {N : Nat} {r : Int32 × AS} {E : EV} (hE : TG E (some (.int r.1)) r.2)   {l0 : Nat} {l1 : Int32} {l2 : Int32} {t0 : Int32} {s : AS} (hf : f_X1_addGauge_7 N l0 l1 l2 t0 s = some r) : Z E yX1_addGauge cX1_addGauge 4 (some .int) 4 s 7 [(0, .ref l0), (1, .int l1), (2, .int l2)] [.int t0] := by
  unfold f_X1_addGauge_7 at hf
  refine z_istore_n [(3, .int t0), (0, .ref l0), (1, .int l1), (2, .int l2)] dX1_addGauge_7 rfl (by decide) rfl ?_
  refine z_aload_n 1 dX1_addGauge_8 rfl rfl ?_
  refine z_gP (ci := 1) (k := 2) (C := RX1) (T := TX1) (N := 8) rfl inlX1 (by decide) mw_3_15 (fun _ _ _ _ h9 => h9) hf (by decide) rfl dX1_addGauge_9  (fun v3 hf => ?_)
  refine z_iload_n 0 dX1_addGauge_12 rfl rfl ?_
  refine z_iconst 0 0 dX1_addGauge_13 (by decide) ?_
  refine z_iload_n 2 dX1_addGauge_14 rfl rfl ?_
  obtain ⟨v4, ev4, hf⟩ := ob hf
  refine z_cVv (ci := 8) (T := TX8) (N := 2) (As := [.int t0, .int (0 : Int32), .int l1]) (rest := []) (zm_X8_put ev4).2 (zm_X8_put ev4).1 (by decide) rfl (Or.inl rfl) mw_20_3 mw_12_23 mw_13_0 mw_3_13 mw_13_1 yk_X8_put (by decide) (by decide) rfl (Nat.le_of_ble_eq_true rfl) rfl dX1_addGauge_15 ?_
  refine z_aload_n 1 dX1_addGauge_18 rfl rfl ?_
  refine z_gP (ci := 1) (k := 2) (C := RX1) (T := TX1) (N := 8) rfl inlX1 (by decide) mw_3_15 (fun _ _ _ _ h9 => h9) hf (by decide) rfl dX1_addGauge_19  (fun v5 hf => ?_)
  refine z_iload_n 0 dX1_addGauge_22 rfl rfl ?_
  refine z_iconst 1 1 dX1_addGauge_23 (by decide) ?_
  refine z_iload_n 3 dX1_addGauge_24 rfl rfl ?_
  refine z_if_eq 32 hf dX1_addGauge_25 (by decide) (fun hf => ?_) (fun hf => ?_)
  · refine z_iconst 0 0 dX1_addGauge_32 (by decide) ?_
    refine z_lv [(0, .ref l0), (3, .int t0)] [1, 0] rfl ?_
    exact zb_X1_addGauge_33 hE hf
  · refine z_iconst 1 1 dX1_addGauge_28 (by decide) ?_
    refine z_goto 33 dX1_addGauge_29 (by decide) ?_
    refine z_lv [(0, .ref l0), (3, .int t0)] [1, 0] rfl ?_
    exact zb_X1_addGauge_33 hE hf
set_option maxRecDepth 20000 in
theorem lm_X1_addGauge {N : Nat} {s : AS} {l0 : Nat} {l1 : Int32} {l2 : Int32} {r : Int32 × AS} (hf : f_X1_addGauge N l0 l1 l2 s = some r) : Le s r.2 := by
  unfold f_X1_addGauge at hf
  refine ite_c hf (fun hf => ?_) (fun hf => ?_)
  · skip
    obtain ⟨v1, -, hf⟩ := ob hf
    obtain ⟨v2, ev2, hf⟩ := ob hf
    refine Le.of (t := (s.1, s.2)) rfl ((lm_X8_add ev2).tr ?_)
    exact Le.via (le_X1_addGauge_7 hf) rfl
  · cases hf
set_option maxRecDepth 20000 in
theorem zm_X1_addGauge {N : Nat} {s : AS} {l0 : Nat} {l1 : Int32} {l2 : Int32} {r : Int32 × AS} (hf : f_X1_addGauge N l0 l1 l2 s = some r) : isO s.1 l0 1 ∧ ∀ (l : Launch) (G : GG), Mt l G yX1_addGauge cX1_addGauge 4 (some .int) 4 [.ref l0, .int l1, .int l2] s (some (.int r.1)) r.2 := by
  have hf0 := hf
  unfold f_X1_addGauge at hf
  refine ite_d hf (fun hO hf => ?_) (fun _ hf => ?_)
  · refine ⟨hO, fun l G => mt_of (Or.inl (by decide)) (Nat.le_of_ble_eq_true rfl) (lm_X1_addGauge hf0) (fun E hE => ?_)⟩
    show Z E yX1_addGauge cX1_addGauge 4 (some .int) 4 s 0 [(0, .ref l0), (1, .int l1), (2, .int l2)] []
    refine z_aload_n 0 dX1_addGauge_0 rfl rfl ?_
    refine z_gP (ci := 1) (k := 2) (C := RX1) (T := TX1) (N := 8) rfl inlX1 (by decide) mw_3_15 (fun _ _ _ _ h9 => h9) hf (by decide) rfl dX1_addGauge_1  (fun v1 hf => ?_)
    obtain ⟨v2, ev2, hf⟩ := ob hf
    refine z_cVi (ci := 8) (T := TX8) (N := 2) (As := []) (rest := []) (zm_X8_add ev2).2 (zm_X8_add ev2).1 (by decide) rfl (Or.inr (tg_le hE (le_X1_addGauge_7 hf))) mw_20_2 mw_12_19 mw_12_20 mw_3_13 mw_12_21 yk_X8_add (by decide) (by decide) rfl (Nat.le_of_ble_eq_true rfl) rfl dX1_addGauge_4 ?_
    exact zb_X1_addGauge_7 hE hf
  · cases hf
set_option maxRecDepth 20000 in
theorem le_X11_gauge_54 {N : Nat} {r : Int32 × AS}  {t0 : Nat} {t1 : Int32} {s : AS} (hf : f_X11_gauge_54 N t0 t1 s = some r) : Le s r.2 := by
  unfold f_X11_gauge_54 at hf
  obtain ⟨v11, -, hf⟩ := ob hf
  cases hf
  exact Le.rf
set_option maxRecDepth 20000 in
theorem zb_X11_gauge_54 {N : Nat} {r : Int32 × AS} {E : EV} (hE : TG E (some (.int r.1)) r.2)   {t0 : Nat} {t1 : Int32} {s : AS} (hf : f_X11_gauge_54 N t0 t1 s = some r) : Z E yX11_gauge cX11_gauge 3 (some .int) 6 s 54 [] [.int t1, .ref t0] := by
  unfold f_X11_gauge_54 at hf
  obtain ⟨v11, ev11, hf⟩ := ob hf
  refine z_cVi (ci := 11) (T := TX11) (N := 14) (As := [.int t1]) (rest := []) (zm_X11_answer ev11).2 (zm_X11_answer ev11).1 (by decide) rfl (Or.inl rfl) mw_11_2 mw_11_3 mw_11_4 mw_1_2 mw_11_5 yk_X11_answer (by decide) (by decide) rfl (Nat.le_of_ble_eq_true rfl) rfl dX11_gauge_54 ?_
  cases hf
  exact z_ireturn hE rfl dX11_gauge_57
set_option maxRecDepth 20000 in
theorem le_X11_gauge_44 {N : Nat} {r : Int32 × AS}  {l0 : Nat} {l1 : Int32} {l2 : Int32} {s : AS} (hf : f_X11_gauge_44 N l0 l1 l2 s = some r) : Le s r.2 := by
  unfold f_X11_gauge_44 at hf
  obtain ⟨v9, -, hf⟩ := ob hf
  obtain ⟨v10, ev10, hf⟩ := ob hf
  refine Le.of (t := (s.1, s.2)) rfl ((lm_X1_addGauge ev10).tr ?_)
  exact Le.via (le_X11_gauge_54 hf) rfl
set_option maxRecDepth 20000 in
theorem zb_X11_gauge_44 {N : Nat} {r : Int32 × AS} {E : EV} (hE : TG E (some (.int r.1)) r.2)   {l0 : Nat} {l1 : Int32} {l2 : Int32} {s : AS} (hf : f_X11_gauge_44 N l0 l1 l2 s = some r) : Z E yX11_gauge cX11_gauge 3 (some .int) 6 s 44 [(0, .ref l0), (1, .int l1), (2, .int l2)] [] := by
  unfold f_X11_gauge_44 at hf
  refine z_aload_n 0 dX11_gauge_44 rfl rfl ?_
  refine z_aload_n 0 dX11_gauge_45 rfl rfl ?_
  refine z_gP (ci := 11) (k := 1) (C := RX11) (T := TX11) (N := 14) rfl inlX11 (by decide) mw_1_19 (fun _ _ _ _ h9 => h9) hf (by decide) rfl dX11_gauge_46  (fun v9 hf => ?_)
  refine z_iload_n 1 dX11_gauge_49 rfl rfl ?_
  refine z_iload_n 2 dX11_gauge_50 rfl rfl ?_
  obtain ⟨v10, ev10, hf⟩ := ob hf
  refine z_cVi (ci := 1) (T := TX1) (N := 8) (As := [.int l1, .int l2]) (rest := [.ref l0]) (zm_X1_addGauge ev10).2 (zm_X1_addGauge ev10).1 (by decide) rfl (Or.inr (tg_le hE (le_X11_gauge_54 hf))) mw_19_22 mw_19_23 mw_20_0 mw_1_18 mw_20_1 yk_X1_addGauge (by decide) (by decide) rfl (Nat.le_of_ble_eq_true rfl) rfl dX11_gauge_51 ?_
  refine z_lv [] [] rfl ?_
  exact zb_X11_gauge_54 hE hf
set_option maxRecDepth 20000 in
theorem lm_X11_gauge {N : Nat} {s : AS} {l0 : Nat} {l1 : Int32} {l2 : Int32} {r : Int32 × AS} (hf : f_X11_gauge N l0 l1 l2 s = some r) : Le s r.2 := by
  unfold f_X11_gauge at hf
  refine ite_c hf (fun hf => ?_) (fun hf => ?_)
  · skip
    obtain ⟨v1, -, hf⟩ := ob hf
    obtain ⟨v2, -, hf⟩ := ob hf
    refine ite_c hf (fun hf => ?_) (fun hf => ?_)
    · obtain ⟨v3, -, hf⟩ := ob hf
      obtain ⟨v4, -, hf⟩ := ob hf
      obtain ⟨v5, -, hf⟩ := ob hf
      refine ite_c hf (fun hf => ?_) (fun hf => ?_)
      · obtain ⟨v6, ev6, hf⟩ := ob hf
        refine Le.of (t := (s.1, s.2)) rfl ((lm_X11_change ev6).tr ?_)
        exact Le.via (le_X11_gauge_44 hf) rfl
      · obtain ⟨v7, -, hf⟩ := ob hf
        cases hf
        exact Le.rf
    · obtain ⟨v8, -, hf⟩ := ob hf
      cases hf
      exact Le.rf
  · cases hf
set_option maxRecDepth 20000 in
theorem zm_X11_gauge {N : Nat} {s : AS} {l0 : Nat} {l1 : Int32} {l2 : Int32} {r : Int32 × AS} (hf : f_X11_gauge N l0 l1 l2 s = some r) : isO s.1 l0 11 ∧ ∀ (l : Launch) (G : GG), Mt l G yX11_gauge cX11_gauge 3 (some .int) 6 [.ref l0, .int l1, .int l2] s (some (.int r.1)) r.2 := by
  have hf0 := hf
  unfold f_X11_gauge at hf
  refine ite_d hf (fun hO hf => ?_) (fun _ hf => ?_)
  · refine ⟨hO, fun l G => mt_of (Or.inl (by decide)) (Nat.le_of_ble_eq_true rfl) (lm_X11_gauge hf0) (fun E hE => ?_)⟩
    show Z E yX11_gauge cX11_gauge 3 (some .int) 6 s 0 [(0, .ref l0), (1, .int l1), (2, .int l2)] []
    refine z_aload_n 0 dX11_gauge_0 rfl rfl ?_
    refine z_gP (ci := 11) (k := 1) (C := RX11) (T := TX11) (N := 14) rfl inlX11 (by decide) mw_1_19 (fun _ _ _ _ h9 => h9) hf (by decide) rfl dX11_gauge_1  (fun v1 hf => ?_)
    refine z_iload_n 1 dX11_gauge_4 rfl rfl ?_
    obtain ⟨v2, ev2, hf⟩ := ob hf
    refine z_cVi (ci := 1) (T := TX1) (N := 8) (As := [.int l1]) (rest := []) (zm_X1_hasCrossing ev2).2 (zm_X1_hasCrossing ev2).1 (by decide) rfl (Or.inl rfl) mw_12_14 mw_12_15 mw_12_16 mw_1_18 mw_12_17 yk_X1_hasCrossing (by decide) (by decide) rfl (Nat.le_of_ble_eq_true rfl) rfl dX11_gauge_5 ?_
    refine z_if_ne 18 hf dX11_gauge_8 (by decide) (fun hf => ?_) (fun hf => ?_)
    · refine z_aload_n 0 dX11_gauge_18 rfl rfl ?_
      refine z_gP (ci := 11) (k := 1) (C := RX11) (T := TX11) (N := 14) rfl inlX11 (by decide) mw_1_19 (fun _ _ _ _ h9 => h9) hf (by decide) rfl dX11_gauge_19  (fun v3 hf => ?_)
      refine z_gP (ci := 1) (k := 2) (C := RX1) (T := TX1) (N := 8) rfl inlX1 (by decide) mw_19_21 (fun _ _ _ _ h9 => h9) hf (by decide) rfl dX11_gauge_22  (fun v4 hf => ?_)
      refine z_gI (ci := 8) (k := 1) (C := RX8) (T := TX8) (N := 2) rfl inlX8 (by decide) mw_12_13 (fun _ _ _ _ h9 => h9) hf (by decide) rfl dX11_gauge_25  (fun v5 hf => ?_)
      refine z_bipush 20 20 dX11_gauge_28 (by decide) ?_
      refine z_icmp_lt 40 hf dX11_gauge_30 (by decide) (fun hf => ?_) (fun hf => ?_)
      · refine z_aload_n 0 dX11_gauge_40 rfl rfl ?_
        obtain ⟨v6, ev6, hf⟩ := ob hf
        refine z_cVv (ci := 11) (T := TX11) (N := 14) (As := []) (rest := []) (zm_X11_change ev6).2 (zm_X11_change ev6).1 (by decide) rfl (Or.inr (tg_le hE (le_X11_gauge_44 hf))) mw_8_7 mw_8_8 mw_8_9 mw_1_2 mw_8_10 yk_X11_change (by decide) (by decide) rfl (Nat.le_of_ble_eq_true rfl) rfl dX11_gauge_41 ?_
        exact zb_X11_gauge_44 hE hf
      · refine z_aload_n 0 dX11_gauge_33 rfl rfl ?_
        refine z_bipush (-3) (-3) dX11_gauge_34 (by decide) ?_
        obtain ⟨v7, ev7, hf⟩ := ob hf
        refine z_cVi (ci := 11) (T := TX11) (N := 14) (As := [.int (-3 : Int32)]) (rest := []) (zm_X11_refuse ev7).2 (zm_X11_refuse ev7).1 (by decide) rfl (Or.inl rfl) mw_7_22 mw_7_23 mw_8_0 mw_1_2 mw_8_1 yk_X11_refuse (by decide) (by decide) rfl (Nat.le_of_ble_eq_true rfl) rfl dX11_gauge_36 ?_
        cases hf
        exact z_ireturn hE rfl dX11_gauge_39
    · refine z_aload_n 0 dX11_gauge_11 rfl rfl ?_
      refine z_bipush (-2) (-2) dX11_gauge_12 (by decide) ?_
      obtain ⟨v8, ev8, hf⟩ := ob hf
      refine z_cVi (ci := 11) (T := TX11) (N := 14) (As := [.int (-2 : Int32)]) (rest := []) (zm_X11_refuse ev8).2 (zm_X11_refuse ev8).1 (by decide) rfl (Or.inl rfl) mw_7_22 mw_7_23 mw_8_0 mw_1_2 mw_8_1 yk_X11_refuse (by decide) (by decide) rfl (Nat.le_of_ble_eq_true rfl) rfl dX11_gauge_14 ?_
      cases hf
      exact z_ireturn hE rfl dX11_gauge_17
  · cases hf
set_option maxRecDepth 20000 in
theorem zb_X1_hasDriveLeft_26 {N : Nat} {sh : Sh} {d : Dt} {r : Int32} {E : EV} (hE : TG E (some (.int r)) (sh, d))  {t0 : Int32} (hf : f_X1_hasDriveLeft_26 N sh t0 d = some r) : Z E yX1_hasDriveLeft cX1_hasDriveLeft 2 (some .boolean) 2 (sh, d) 26 [] [.int t0] := by
  unfold f_X1_hasDriveLeft_26 at hf
  obtain ⟨v5, ev5, hg⟩ := ob hf
  obtain ⟨rfl, hbv5⟩ := o_bool_spec ev5
  cases hg
  exact z_zreturn hE rfl hbv5 dX1_hasDriveLeft_26
set_option maxRecDepth 20000 in
theorem zm_X1_hasDriveLeft {N : Nat} {sh : Sh} {d : Dt} {l0 : Nat} {l1 : Int32} {r : Int32} (hf : f_X1_hasDriveLeft N sh l0 l1 d = some r) : isO sh l0 1 ∧ ∀ (l : Launch) (G : GG), Mt l G yX1_hasDriveLeft cX1_hasDriveLeft 2 (some .boolean) 2 [.ref l0, .int l1] (sh, d) (some (.int r)) (sh, d) := by
  have hf0 := hf
  unfold f_X1_hasDriveLeft at hf
  refine ite_d hf (fun hO hf => ?_) (fun _ hf => ?_)
  · refine ⟨hO, fun l G => mt_of (Or.inl (by decide)) (Nat.le_of_ble_eq_true rfl) Le.rf (fun E hE => ?_)⟩
    show Z E yX1_hasDriveLeft cX1_hasDriveLeft 2 (some .boolean) 2 (sh, d) 0 [(0, .ref l0), (1, .int l1)] []
    refine z_aload_n 0 dX1_hasDriveLeft_0 rfl rfl ?_
    refine z_gP (ci := 1) (k := 3) (C := RX1) (T := TX1) (N := 8) rfl inlX1 (by decide) mw_3_16 (fun _ _ _ _ h9 => h9) hf (by decide) rfl dX1_hasDriveLeft_1  (fun v1 hf => ?_)
    refine z_iload_n 1 dX1_hasDriveLeft_4 rfl rfl ?_
    refine z_iconst 2 2 dX1_hasDriveLeft_5 (by decide) ?_
    obtain ⟨v2, ev2, hf⟩ := ob hf
    refine z_cVi (ci := 8) (T := TX8) (N := 2) (As := [.int l1, .int (2 : Int32)]) (rest := []) (zm_X8_get ev2).2 (zm_X8_get ev2).1 (by decide) rfl (Or.inl rfl) mw_10_10 mw_10_11 mw_10_12 mw_3_13 mw_10_13 yk_X8_get (by decide) (by decide) rfl (Nat.le_of_ble_eq_true rfl) rfl dX1_hasDriveLeft_6 ?_
    refine z_aload_n 0 dX1_hasDriveLeft_9 rfl rfl ?_
    refine z_gP (ci := 1) (k := 3) (C := RX1) (T := TX1) (N := 8) rfl inlX1 (by decide) mw_3_16 (fun _ _ _ _ h9 => h9) hf (by decide) rfl dX1_hasDriveLeft_10  (fun v3 hf => ?_)
    refine z_iload_n 1 dX1_hasDriveLeft_13 rfl rfl ?_
    refine z_iconst 1 1 dX1_hasDriveLeft_14 (by decide) ?_
    obtain ⟨v4, ev4, hf⟩ := ob hf
    refine z_cVi (ci := 8) (T := TX8) (N := 2) (As := [.int l1, .int (1 : Int32)]) (rest := [.int v2]) (zm_X8_get ev4).2 (zm_X8_get ev4).1 (by decide) rfl (Or.inl rfl) mw_10_10 mw_10_11 mw_10_12 mw_3_13 mw_10_13 yk_X8_get (by decide) (by decide) rfl (Nat.le_of_ble_eq_true rfl) rfl dX1_hasDriveLeft_15 ?_
    refine z_icmp_ge 25 hf dX1_hasDriveLeft_18 (by decide) (fun hf => ?_) (fun hf => ?_)
    · refine z_iconst 0 0 dX1_hasDriveLeft_25 (by decide) ?_
      refine z_lv [] [] rfl ?_
      exact zb_X1_hasDriveLeft_26 hE hf
    · refine z_iconst 1 1 dX1_hasDriveLeft_21 (by decide) ?_
      refine z_goto 26 dX1_hasDriveLeft_22 (by decide) ?_
      refine z_lv [] [] rfl ?_
      exact zb_X1_hasDriveLeft_26 hE hf
  · cases hf
set_option maxRecDepth 20000 in
theorem zb_X1_isNextShut_30 {N : Nat} {sh : Sh} {d : Dt} {r : Int32} {E : EV} (hE : TG E (some (.int r)) (sh, d))  {t0 : Int32} (hf : f_X1_isNextShut_30 N sh t0 d = some r) : Z E yX1_isNextShut cX1_isNextShut 2 (some .boolean) 3 (sh, d) 30 [] [.int t0] := by
  unfold f_X1_isNextShut_30 at hf
  obtain ⟨v6, ev6, hg⟩ := ob hf
  obtain ⟨rfl, hbv6⟩ := o_bool_spec ev6
  cases hg
  exact z_zreturn hE rfl hbv6 dX1_isNextShut_30
set_option maxRecDepth 20000 in
theorem zm_X1_isNextShut {N : Nat} {sh : Sh} {d : Dt} {l0 : Nat} {l1 : Int32} {r : Int32} (hf : f_X1_isNextShut N sh l0 l1 d = some r) : isO sh l0 1 ∧ ∀ (l : Launch) (G : GG), Mt l G yX1_isNextShut cX1_isNextShut 2 (some .boolean) 3 [.ref l0, .int l1] (sh, d) (some (.int r)) (sh, d) := by
  have hf0 := hf
  unfold f_X1_isNextShut at hf
  refine ite_d hf (fun hO hf => ?_) (fun _ hf => ?_)
  · refine ⟨hO, fun l G => mt_of (Or.inl (by decide)) (Nat.le_of_ble_eq_true rfl) Le.rf (fun E hE => ?_)⟩
    show Z E yX1_isNextShut cX1_isNextShut 2 (some .boolean) 3 (sh, d) 0 [(0, .ref l0), (1, .int l1)] []
    refine z_aload_n 0 dX1_isNextShut_0 rfl rfl ?_
    refine z_gP (ci := 1) (k := 1) (C := RX1) (T := TX1) (N := 8) rfl inlX1 (by decide) mw_3_14 (fun _ _ _ _ h9 => h9) hf (by decide) rfl dX1_isNextShut_1  (fun v1 hf => ?_)
    refine z_aload_n 0 dX1_isNextShut_4 rfl rfl ?_
    refine z_gP (ci := 1) (k := 4) (C := RX1) (T := TX1) (N := 8) rfl inlX1 (by decide) mw_3_17 (fun _ _ _ _ h9 => h9) hf (by decide) rfl dX1_isNextShut_5  (fun v2 hf => ?_)
    refine z_aload_n 0 dX1_isNextShut_8 rfl rfl ?_
    refine z_iload_n 1 dX1_isNextShut_9 rfl rfl ?_
    obtain ⟨v3, ev3, hf⟩ := ob hf
    refine z_cVi (ci := 1) (T := TX1) (N := 8) (As := [.int l1]) (rest := [.ref v2, .ref v1]) (zm_X1_nextDrive ev3).2 (zm_X1_nextDrive ev3).1 (by decide) rfl (Or.inl rfl) mw_54_12 mw_54_13 mw_54_14 mw_1_18 mw_54_15 yk_X1_nextDrive (by decide) (by decide) rfl (Nat.le_of_ble_eq_true rfl) rfl dX1_isNextShut_10 ?_
    refine z_iconst 0 0 dX1_isNextShut_13 (by decide) ?_
    obtain ⟨v4, ev4, hf⟩ := ob hf
    refine z_cVi (ci := 8) (T := TX8) (N := 2) (As := [.int v3, .int (0 : Int32)]) (rest := [.ref v1]) (zm_X8_get ev4).2 (zm_X8_get ev4).1 (by decide) rfl (Or.inl rfl) mw_10_10 mw_10_11 mw_10_12 mw_3_13 mw_10_13 yk_X8_get (by decide) (by decide) rfl (Nat.le_of_ble_eq_true rfl) rfl dX1_isNextShut_14 ?_
    refine z_iconst 4 4 dX1_isNextShut_17 (by decide) ?_
    obtain ⟨v5, ev5, hf⟩ := ob hf
    refine z_cVi (ci := 8) (T := TX8) (N := 2) (As := [.int v4, .int (4 : Int32)]) (rest := []) (zm_X8_get ev5).2 (zm_X8_get ev5).1 (by decide) rfl (Or.inl rfl) mw_10_10 mw_10_11 mw_10_12 mw_3_13 mw_10_13 yk_X8_get (by decide) (by decide) rfl (Nat.le_of_ble_eq_true rfl) rfl dX1_isNextShut_18 ?_
    refine z_iconst 1 1 dX1_isNextShut_21 (by decide) ?_
    refine z_icmp_ne 29 hf dX1_isNextShut_22 (by decide) (fun hf => ?_) (fun hf => ?_)
    · refine z_iconst 0 0 dX1_isNextShut_29 (by decide) ?_
      refine z_lv [] [] rfl ?_
      exact zb_X1_isNextShut_30 hE hf
    · refine z_iconst 1 1 dX1_isNextShut_25 (by decide) ?_
      refine z_goto 30 dX1_isNextShut_26 (by decide) ?_
      refine z_lv [] [] rfl ?_
      exact zb_X1_isNextShut_30 hE hf
  · cases hf
set_option maxRecDepth 20000 in
theorem le_X11_go_25 {N : Nat} {r : Int32 × AS}  {l0 : Nat} {s : AS} (hf : f_X11_go_25 N l0 s = some r) : Le s r.2 := by
  unfold f_X11_go_25 at hf
  obtain ⟨v17, -, hf⟩ := ob hf
  cases hf
  exact Le.rf
set_option maxRecDepth 20000 in
theorem zb_X11_go_25 {N : Nat} {r : Int32 × AS} {E : EV} (hE : TG E (some (.int r.1)) r.2)   {l0 : Nat} {s : AS} (hf : f_X11_go_25 N l0 s = some r) : Z E yX11_go cX11_go 4 (some .int) 6 s 25 [(0, .ref l0)] [] := by
  unfold f_X11_go_25 at hf
  refine z_aload_n 0 dX11_go_25 rfl rfl ?_
  refine z_bipush (-2) (-2) dX11_go_26 (by decide) ?_
  obtain ⟨v17, ev17, hf⟩ := ob hf
  refine z_cVi (ci := 11) (T := TX11) (N := 14) (As := [.int (-2 : Int32)]) (rest := []) (zm_X11_refuse ev17).2 (zm_X11_refuse ev17).1 (by decide) rfl (Or.inl rfl) mw_7_22 mw_7_23 mw_8_0 mw_1_2 mw_8_1 yk_X11_refuse (by decide) (by decide) rfl (Nat.le_of_ble_eq_true rfl) rfl dX11_go_28 ?_
  cases hf
  exact z_ireturn hE rfl dX11_go_31
set_option maxRecDepth 20000 in
theorem le_X11_go_158 {N : Nat} {r : Int32 × AS}  {l0 : Nat} {l3 : Int32} {s : AS} (hf : f_X11_go_158 N l0 l3 s = some r) : Le s r.2 := by
  unfold f_X11_go_158 at hf
  obtain ⟨v26, -, hf⟩ := ob hf
  cases hf
  exact Le.rf
set_option maxRecDepth 20000 in
theorem zb_X11_go_158 {N : Nat} {r : Int32 × AS} {E : EV} (hE : TG E (some (.int r.1)) r.2)   {l0 : Nat} {l3 : Int32} {s : AS} (hf : f_X11_go_158 N l0 l3 s = some r) : Z E yX11_go cX11_go 4 (some .int) 6 s 158 [(0, .ref l0), (3, .int l3)] [] := by
  unfold f_X11_go_158 at hf
  refine z_aload_n 0 dX11_go_158 rfl rfl ?_
  refine z_iload_n 1 dX11_go_159 rfl rfl ?_
  obtain ⟨v26, ev26, hf⟩ := ob hf
  refine z_cVi (ci := 11) (T := TX11) (N := 14) (As := [.int l3]) (rest := []) (zm_X11_answer ev26).2 (zm_X11_answer ev26).1 (by decide) rfl (Or.inl rfl) mw_11_2 mw_11_3 mw_11_4 mw_1_2 mw_11_5 yk_X11_answer (by decide) (by decide) rfl (Nat.le_of_ble_eq_true rfl) rfl dX11_go_160 ?_
  cases hf
  exact z_ireturn hE rfl dX11_go_163
set_option maxRecDepth 20000 in
theorem le_X11_go_144 {N : Nat} {r : Int32 × AS}  {l0 : Nat} {l3 : Int32} {s : AS} (hf : f_X11_go_144 N l0 l3 s = some r) : Le s r.2 := by
  unfold f_X11_go_144 at hf
  exact Le.via (le_X11_go_158 hf) rfl
set_option maxRecDepth 20000 in
theorem zb_X11_go_144 {N : Nat} {r : Int32 × AS} {E : EV} (hE : TG E (some (.int r.1)) r.2)   {l0 : Nat} {l3 : Int32} {s : AS} (hf : f_X11_go_144 N l0 l3 s = some r) : Z E yX11_go cX11_go 4 (some .int) 6 s 144 [(0, .ref l0), (3, .int l3)] [] := by
  unfold f_X11_go_144 at hf
  refine z_goto 158 dX11_go_144 (by decide) ?_
  exact zb_X11_go_158 hE hf
set_option maxRecDepth 20000 in
theorem lg_X11_go_104 {N : Nat} {r : Int32 × AS} {k104 : Nat → Int32 → Int32 → Int32 → AS → Option (Int32 × AS)}  (hk104 : ∀ (l0 : Nat) (l1 : Int32) (l2 : Int32) (l3 : Int32) (s : AS), k104 l0 l1 l2 l3 s = some r → Le s r.2) {l0 : Nat} {l1 : Int32} {l2 : Int32} {l3 : Int32} {s : AS} (hf : g_X11_go_104 N k104 l0 l1 l2 l3 s = some r) : Le s r.2 := by
  unfold g_X11_go_104 at hf
  refine ite_c hf (fun hf => ?_) (fun hf => ?_)
  · exact Le.via (le_X11_go_158 hf) rfl
  · obtain ⟨v18, -, hf⟩ := ob hf
    obtain ⟨v19, -, hf⟩ := ob hf
    refine ite_c hf (fun hf => ?_) (fun hf => ?_)
    · exact Le.via (le_X11_go_158 hf) rfl
    · obtain ⟨v20, -, hf⟩ := ob hf
      obtain ⟨v21, -, hf⟩ := ob hf
      obtain ⟨d22, -, hf⟩ := ob hf
      obtain ⟨v23, -, hf⟩ := ob hf
      obtain ⟨v24, -, hf⟩ := ob hf
      refine ite_c hf (fun hf => ?_) (fun hf => ?_)
      · obtain ⟨v25, -, hf⟩ := ob hf
        exact Le.via (hk104 _ _ _ _ _ hf) rfl
      · exact Le.via (le_X11_go_144 hf) rfl
set_option maxRecDepth 20000 in
theorem le_X11_go_104 {N : Nat} {r : Int32 × AS}  : ∀ (n : Nat) (l0 : Nat) (l1 : Int32) (l2 : Int32) (l3 : Int32) (s : AS), f_X11_go_104 N n l0 l1 l2 l3 s = some r → Le s r.2 := by
  intro n
  induction n with
  | zero => intro l0 l1 l2 l3 s hf; cases hf
  | succ n ih => intro l0 l1 l2 l3 s hf; exact lg_X11_go_104 ih hf
set_option maxRecDepth 20000 in
theorem zg_X11_go_104 {N : Nat} {r : Int32 × AS} {k104 : Nat → Int32 → Int32 → Int32 → AS → Option (Int32 × AS)} {E : EV} (hE : TG E (some (.int r.1)) r.2)   (hk104 : ∀ (l0 : Nat) (l1 : Int32) (l2 : Int32) (l3 : Int32) (s : AS), k104 l0 l1 l2 l3 s = some r → Z E yX11_go cX11_go 4 (some .int) 6 s 104 [(0, .ref l0), (1, .int l1), (2, .int l2), (3, .int l3)] []) (hq104 : ∀ (l0 : Nat) (l1 : Int32) (l2 : Int32) (l3 : Int32) (s : AS), k104 l0 l1 l2 l3 s = some r → Le s r.2) {l0 : Nat} {l1 : Int32} {l2 : Int32} {l3 : Int32} {s : AS} (hf : g_X11_go_104 N k104 l0 l1 l2 l3 s = some r) : Z E yX11_go cX11_go 4 (some .int) 6 s 104 [(0, .ref l0), (1, .int l1), (2, .int l2), (3, .int l3)] [] := by
  unfold g_X11_go_104 at hf
  refine z_iload_n 3 dX11_go_104 rfl rfl ?_
  refine z_iload_n 2 dX11_go_105 rfl rfl ?_
  refine z_icmp_ge 158 hf dX11_go_106 (by decide) (fun hf => ?_) (fun hf => ?_)
  · refine z_lv [(0, .ref l0), (3, .int l3)] [0, 3] rfl ?_
    exact zb_X11_go_158 hE hf
  · refine z_aload_n 0 dX11_go_109 rfl rfl ?_
    refine z_gP (ci := 11) (k := 1) (C := RX11) (T := TX11) (N := 14) rfl inlX11 (by decide) mw_1_19 (fun _ _ _ _ h9 => h9) hf (by decide) rfl dX11_go_110  (fun v18 hf => ?_)
    refine z_iload_n 1 dX11_go_113 rfl rfl ?_
    obtain ⟨v19, ev19, hf⟩ := ob hf
    refine z_cVi (ci := 1) (T := TX1) (N := 8) (As := [.int l1]) (rest := []) (zm_X1_hasDriveLeft ev19).2 (zm_X1_hasDriveLeft ev19).1 (by decide) rfl (Or.inl rfl) mw_54_4 mw_54_5 mw_54_6 mw_1_18 mw_54_7 yk_X1_hasDriveLeft (by decide) (by decide) rfl (Nat.le_of_ble_eq_true rfl) rfl dX11_go_114 ?_
    refine z_if_eq 158 hf dX11_go_117 (by decide) (fun hf => ?_) (fun hf => ?_)
    · refine z_lv [(0, .ref l0), (3, .int l3)] [0, 3] rfl ?_
      exact zb_X11_go_158 hE hf
    · refine z_aload_n 0 dX11_go_120 rfl rfl ?_
      refine z_gP (ci := 11) (k := 0) (C := RX11) (T := TX11) (N := 14) rfl inlX11 (by decide) mw_1_15 (fun _ _ _ _ h9 => h9) hf (by decide) rfl dX11_go_121  (fun v20 hf => ?_)
      refine z_dup dX11_go_124 rfl ?_
      refine z_gI (ci := 2) (k := 3) (C := RX2) (T := TX2) (N := 4) rfl inlX2 (by decide) mw_54_3 (fun _ _ _ _ h9 => h9) hf (by decide) rfl dX11_go_125  (fun v21 hf => ?_)
      refine z_iconst 1 1 dX11_go_128 (by decide) ?_
      refine z_iadd dX11_go_129 ?_
      refine z_pI (ci := 2) (k := 3) (C := RX2) (T := TX2) (N := 4) rfl inlX2 (by decide) mw_54_3 (fun _ _ _ _ h9 => h9) tyX2 tyX2_ok nmX2 rfl hf (Or.inl (by decide)) rfl rfl rfl dX11_go_130  (fun d22 hf => ?_)
      refine z_aload_n 0 dX11_go_133 rfl rfl ?_
      refine z_gP (ci := 11) (k := 1) (C := RX11) (T := TX11) (N := 14) rfl inlX11 (by decide) mw_1_19 (fun _ _ _ _ h9 => h9) hf (by decide) rfl dX11_go_134  (fun v23 hf => ?_)
      refine z_iload_n 1 dX11_go_137 rfl rfl ?_
      obtain ⟨v24, ev24, hf⟩ := ob hf
      refine z_cVi (ci := 1) (T := TX1) (N := 8) (As := [.int l1]) (rest := []) (zm_X1_isNextShut ev24).2 (zm_X1_isNextShut ev24).1 (by decide) rfl (Or.inl rfl) mw_54_8 mw_54_9 mw_54_10 mw_1_18 mw_54_11 yk_X1_isNextShut (by decide) (by decide) rfl (Nat.le_of_ble_eq_true rfl) rfl dX11_go_138 ?_
      refine z_if_eq 147 hf dX11_go_141 (by decide) (fun hf => ?_) (fun hf => ?_)
      · refine z_aload_n 0 dX11_go_147 rfl rfl ?_
        refine z_iload_n 1 dX11_go_148 rfl rfl ?_
        obtain ⟨v25, ev25, hf⟩ := ob hf
        refine z_cVv (ci := 11) (T := TX11) (N := 14) (As := [.int l1]) (rest := []) (zm_X11_driveNext ev25).2 (zm_X11_driveNext ev25).1 (by decide) rfl (Or.inl rfl) mw_54_16 mw_54_17 mw_54_18 mw_1_2 mw_54_19 yk_X11_driveNext (by decide) (by decide) rfl (Nat.le_of_ble_eq_true rfl) rfl dX11_go_149 ?_
        refine z_iinc [(3, .int (l3 + 1)), (0, .ref l0), (1, .int l1), (2, .int l2)] 3 (l3 + 1) dX11_go_152 rfl rfl (by decide) rfl ?_
        refine z_goto 104 dX11_go_155 (by decide) ?_
        refine z_lv [(0, .ref l0), (1, .int l1), (2, .int l2), (3, .int (l3 + 1))] [1, 2, 3, 0] rfl ?_
        exact hk104 _ _ _ _ _ hf
      · refine z_lv [(0, .ref l0), (3, .int l3)] [0, 3] rfl ?_
        exact zb_X11_go_144 hE hf
set_option maxRecDepth 20000 in
theorem zb_X11_go_104 {N : Nat} {r : Int32 × AS} {E : EV} (hE : TG E (some (.int r.1)) r.2)   : ∀ (n : Nat) (l0 : Nat) (l1 : Int32) (l2 : Int32) (l3 : Int32) (s : AS), f_X11_go_104 N n l0 l1 l2 l3 s = some r → Z E yX11_go cX11_go 4 (some .int) 6 s 104 [(0, .ref l0), (1, .int l1), (2, .int l2), (3, .int l3)] [] := by
  intro n
  induction n with
  | zero => intro l0 l1 l2 l3 s hf; cases hf
  | succ n ih => intro l0 l1 l2 l3 s hf; exact zg_X11_go_104 hE ih (le_X11_go_104 n) hf
set_option maxRecDepth 20000 in
theorem le_X11_go_102 {N : Nat} {r : Int32 × AS}  {l0 : Nat} {l1 : Int32} {l2 : Int32} {s : AS} (hf : f_X11_go_102 N l0 l1 l2 s = some r) : Le s r.2 := by
  unfold f_X11_go_102 at hf
  exact Le.via (le_X11_go_104 N _ _ _ _ _ hf) rfl
set_option maxRecDepth 20000 in
theorem zb_X11_go_102 {N : Nat} {r : Int32 × AS} {E : EV} (hE : TG E (some (.int r.1)) r.2)   {l0 : Nat} {l1 : Int32} {l2 : Int32} {s : AS} (hf : f_X11_go_102 N l0 l1 l2 s = some r) : Z E yX11_go cX11_go 4 (some .int) 6 s 102 [(0, .ref l0), (1, .int l1), (2, .int l2)] [] := by
  unfold f_X11_go_102 at hf
  refine z_iconst 0 0 dX11_go_102 (by decide) ?_
  refine z_istore_n [(3, .int (0 : Int32)), (0, .ref l0), (1, .int l1), (2, .int l2)] dX11_go_103 rfl (by decide) rfl ?_
  refine z_lv [(0, .ref l0), (1, .int l1), (2, .int l2), (3, .int (0 : Int32))] [1, 2, 3, 0] rfl ?_
  exact zb_X11_go_104 hE N _ _ _ _ _ hf
set_option maxRecDepth 20000 in
theorem lm_X11_go {N : Nat} {s : AS} {l0 : Nat} {l1 : Int32} {l2 : Int32} {r : Int32 × AS} (hf : f_X11_go N l0 l1 l2 s = some r) : Le s r.2 := by
  unfold f_X11_go at hf
  refine ite_c hf (fun hf => ?_) (fun hf => ?_)
  · skip
    obtain ⟨v1, -, hf⟩ := ob hf
    obtain ⟨v2, -, hf⟩ := ob hf
    obtain ⟨v3, -, hf⟩ := ob hf
    refine ite_c hf (fun hf => ?_) (fun hf => ?_)
    · exact Le.via (le_X11_go_25 hf) rfl
    · refine ite_c hf (fun hf => ?_) (fun hf => ?_)
      · exact Le.via (le_X11_go_25 hf) rfl
      · refine ite_c hf (fun hf => ?_) (fun hf => ?_)
        · obtain ⟨v4, -, hf⟩ := ob hf
          obtain ⟨v5, -, hf⟩ := ob hf
          refine ite_c hf (fun hf => ?_) (fun hf => ?_)
          · obtain ⟨v6, -, hf⟩ := ob hf
            obtain ⟨v7, -, hf⟩ := ob hf
            refine ite_c hf (fun hf => ?_) (fun hf => ?_)
            · obtain ⟨v8, -, hf⟩ := ob hf
              obtain ⟨v9, -, hf⟩ := ob hf
              refine ite_c hf (fun hf => ?_) (fun hf => ?_)
              · obtain ⟨v10, ev10, hf⟩ := ob hf
                refine Le.of (t := (s.1, s.2)) rfl ((lm_X11_change ev10).tr ?_)
                exact Le.via (le_X11_go_102 hf) rfl
              · obtain ⟨v11, -, hf⟩ := ob hf
                obtain ⟨v12, -, hf⟩ := ob hf
                obtain ⟨d13, -, hf⟩ := ob hf
                obtain ⟨v14, -, hf⟩ := ob hf
                cases hf
                exact Le.rf
            · obtain ⟨v15, -, hf⟩ := ob hf
              cases hf
              exact Le.rf
          · obtain ⟨v16, -, hf⟩ := ob hf
            cases hf
            exact Le.rf
        · exact Le.via (le_X11_go_25 hf) rfl
  · cases hf
set_option maxRecDepth 20000 in
theorem zm_X11_go {N : Nat} {s : AS} {l0 : Nat} {l1 : Int32} {l2 : Int32} {r : Int32 × AS} (hf : f_X11_go N l0 l1 l2 s = some r) : isO s.1 l0 11 ∧ ∀ (l : Launch) (G : GG), Mt l G yX11_go cX11_go 4 (some .int) 6 [.ref l0, .int l1, .int l2] s (some (.int r.1)) r.2 := by
  have hf0 := hf
  unfold f_X11_go at hf
  refine ite_d hf (fun hO hf => ?_) (fun _ hf => ?_)
  · refine ⟨hO, fun l G => mt_of (Or.inl (by decide)) (Nat.le_of_ble_eq_true rfl) (lm_X11_go hf0) (fun E hE => ?_)⟩
    show Z E yX11_go cX11_go 4 (some .int) 6 s 0 [(0, .ref l0), (1, .int l1), (2, .int l2)] []
    refine z_aload_n 0 dX11_go_0 rfl rfl ?_
    refine z_gP (ci := 11) (k := 1) (C := RX11) (T := TX11) (N := 14) rfl inlX11 (by decide) mw_1_19 (fun _ _ _ _ h9 => h9) hf (by decide) rfl dX11_go_1  (fun v1 hf => ?_)
    refine z_gP (ci := 1) (k := 3) (C := RX1) (T := TX1) (N := 8) rfl inlX1 (by decide) mw_29_16 (fun _ _ _ _ h9 => h9) hf (by decide) rfl dX11_go_4  (fun v2 hf => ?_)
    refine z_iload_n 1 dX11_go_7 rfl rfl ?_
    obtain ⟨v3, ev3, hf⟩ := ob hf
    refine z_cVi (ci := 8) (T := TX8) (N := 2) (As := [.int l1]) (rest := []) (zm_X8_has ev3).2 (zm_X8_has ev3).1 (by decide) rfl (Or.inl rfl) mw_13_22 mw_13_23 mw_14_0 mw_3_13 mw_14_1 yk_X8_has (by decide) (by decide) rfl (Nat.le_of_ble_eq_true rfl) rfl dX11_go_8 ?_
    refine z_if_eq 25 hf dX11_go_11 (by decide) (fun hf => ?_) (fun hf => ?_)
    · refine z_lv [(0, .ref l0)] [0] rfl ?_
      exact zb_X11_go_25 hE hf
    · refine z_iload_n 2 dX11_go_14 rfl rfl ?_
      refine z_iconst 1 1 dX11_go_15 (by decide) ?_
      refine z_icmp_lt 25 hf dX11_go_16 (by decide) (fun hf => ?_) (fun hf => ?_)
      · refine z_lv [(0, .ref l0)] [0] rfl ?_
        exact zb_X11_go_25 hE hf
      · refine z_iload_n 2 dX11_go_19 rfl rfl ?_
        refine z_bipush 50 50 dX11_go_20 (by decide) ?_
        refine z_icmp_le 32 hf dX11_go_22 (by decide) (fun hf => ?_) (fun hf => ?_)
        · refine z_aload_n 0 dX11_go_32 rfl rfl ?_
          refine z_gP (ci := 11) (k := 1) (C := RX11) (T := TX11) (N := 14) rfl inlX11 (by decide) mw_1_19 (fun _ _ _ _ h9 => h9) hf (by decide) rfl dX11_go_33  (fun v4 hf => ?_)
          refine z_iload_n 1 dX11_go_36 rfl rfl ?_
          obtain ⟨v5, ev5, hf⟩ := ob hf
          refine z_cVi (ci := 1) (T := TX1) (N := 8) (As := [.int l1]) (rest := []) (zm_X1_isOut ev5).2 (zm_X1_isOut ev5).1 (by decide) rfl (Or.inl rfl) mw_31_22 mw_31_23 mw_32_0 mw_1_18 mw_32_1 yk_X1_isOut (by decide) (by decide) rfl (Nat.le_of_ble_eq_true rfl) rfl dX11_go_37 ?_
          refine z_if_eq 50 hf dX11_go_40 (by decide) (fun hf => ?_) (fun hf => ?_)
          · refine z_aload_n 0 dX11_go_50 rfl rfl ?_
            refine z_gP (ci := 11) (k := 1) (C := RX11) (T := TX11) (N := 14) rfl inlX11 (by decide) mw_1_19 (fun _ _ _ _ h9 => h9) hf (by decide) rfl dX11_go_51  (fun v6 hf => ?_)
            refine z_iload_n 1 dX11_go_54 rfl rfl ?_
            obtain ⟨v7, ev7, hf⟩ := ob hf
            refine z_cVi (ci := 1) (T := TX1) (N := 8) (As := [.int l1]) (rest := []) (zm_X1_hasDriveLeft ev7).2 (zm_X1_hasDriveLeft ev7).1 (by decide) rfl (Or.inl rfl) mw_54_4 mw_54_5 mw_54_6 mw_1_18 mw_54_7 yk_X1_hasDriveLeft (by decide) (by decide) rfl (Nat.le_of_ble_eq_true rfl) rfl dX11_go_55 ?_
            refine z_if_ne 68 hf dX11_go_58 (by decide) (fun hf => ?_) (fun hf => ?_)
            · refine z_aload_n 0 dX11_go_68 rfl rfl ?_
              refine z_gP (ci := 11) (k := 1) (C := RX11) (T := TX11) (N := 14) rfl inlX11 (by decide) mw_1_19 (fun _ _ _ _ h9 => h9) hf (by decide) rfl dX11_go_69  (fun v8 hf => ?_)
              refine z_iload_n 1 dX11_go_72 rfl rfl ?_
              obtain ⟨v9, ev9, hf⟩ := ob hf
              refine z_cVi (ci := 1) (T := TX1) (N := 8) (As := [.int l1]) (rest := []) (zm_X1_isNextShut ev9).2 (zm_X1_isNextShut ev9).1 (by decide) rfl (Or.inl rfl) mw_54_8 mw_54_9 mw_54_10 mw_1_18 mw_54_11 yk_X1_isNextShut (by decide) (by decide) rfl (Nat.le_of_ble_eq_true rfl) rfl dX11_go_73 ?_
              refine z_if_eq 98 hf dX11_go_76 (by decide) (fun hf => ?_) (fun hf => ?_)
              · refine z_aload_n 0 dX11_go_98 rfl rfl ?_
                obtain ⟨v10, ev10, hf⟩ := ob hf
                refine z_cVv (ci := 11) (T := TX11) (N := 14) (As := []) (rest := []) (zm_X11_change ev10).2 (zm_X11_change ev10).1 (by decide) rfl (Or.inr (tg_le hE (le_X11_go_102 hf))) mw_8_7 mw_8_8 mw_8_9 mw_1_2 mw_8_10 yk_X11_change (by decide) (by decide) rfl (Nat.le_of_ble_eq_true rfl) rfl dX11_go_99 ?_
                exact zb_X11_go_102 hE hf
              · refine z_aload_n 0 dX11_go_79 rfl rfl ?_
                refine z_gP (ci := 11) (k := 0) (C := RX11) (T := TX11) (N := 14) rfl inlX11 (by decide) mw_1_15 (fun _ _ _ _ h9 => h9) hf (by decide) rfl dX11_go_80  (fun v11 hf => ?_)
                refine z_dup dX11_go_83 rfl ?_
                refine z_gI (ci := 2) (k := 3) (C := RX2) (T := TX2) (N := 4) rfl inlX2 (by decide) mw_54_3 (fun _ _ _ _ h9 => h9) hf (by decide) rfl dX11_go_84  (fun v12 hf => ?_)
                refine z_iconst 1 1 dX11_go_87 (by decide) ?_
                refine z_iadd dX11_go_88 ?_
                refine z_pI (ci := 2) (k := 3) (C := RX2) (T := TX2) (N := 4) rfl inlX2 (by decide) mw_54_3 (fun _ _ _ _ h9 => h9) tyX2 tyX2_ok nmX2 rfl hf (Or.inl (by decide)) rfl rfl rfl dX11_go_89  (fun d13 hf => ?_)
                refine z_aload_n 0 dX11_go_92 rfl rfl ?_
                refine z_iconst 0 0 dX11_go_93 (by decide) ?_
                obtain ⟨v14, ev14, hf⟩ := ob hf
                refine z_cVi (ci := 11) (T := TX11) (N := 14) (As := [.int (0 : Int32)]) (rest := []) (zm_X11_answer ev14).2 (zm_X11_answer ev14).1 (by decide) rfl (Or.inl rfl) mw_11_2 mw_11_3 mw_11_4 mw_1_2 mw_11_5 yk_X11_answer (by decide) (by decide) rfl (Nat.le_of_ble_eq_true rfl) rfl dX11_go_94 ?_
                cases hf
                exact z_ireturn hE rfl dX11_go_97
            · refine z_aload_n 0 dX11_go_61 rfl rfl ?_
              refine z_bipush (-8) (-8) dX11_go_62 (by decide) ?_
              obtain ⟨v15, ev15, hf⟩ := ob hf
              refine z_cVi (ci := 11) (T := TX11) (N := 14) (As := [.int (-8 : Int32)]) (rest := []) (zm_X11_refuse ev15).2 (zm_X11_refuse ev15).1 (by decide) rfl (Or.inl rfl) mw_7_22 mw_7_23 mw_8_0 mw_1_2 mw_8_1 yk_X11_refuse (by decide) (by decide) rfl (Nat.le_of_ble_eq_true rfl) rfl dX11_go_64 ?_
              cases hf
              exact z_ireturn hE rfl dX11_go_67
          · refine z_aload_n 0 dX11_go_43 rfl rfl ?_
            refine z_bipush (-4) (-4) dX11_go_44 (by decide) ?_
            obtain ⟨v16, ev16, hf⟩ := ob hf
            refine z_cVi (ci := 11) (T := TX11) (N := 14) (As := [.int (-4 : Int32)]) (rest := []) (zm_X11_refuse ev16).2 (zm_X11_refuse ev16).1 (by decide) rfl (Or.inl rfl) mw_7_22 mw_7_23 mw_8_0 mw_1_2 mw_8_1 yk_X11_refuse (by decide) (by decide) rfl (Nat.le_of_ble_eq_true rfl) rfl dX11_go_46 ?_
            cases hf
            exact z_ireturn hE rfl dX11_go_49
        · refine z_lv [(0, .ref l0)] [0] rfl ?_
          exact zb_X11_go_25 hE hf
  · cases hf
set_option maxRecDepth 20000 in
theorem le_X2_init_11 {N : Nat} {r : AS}  {l0 : Nat} {s : AS} (hf : f_X2_init_11 N l0 s = some r) : Le s r := by
  unfold f_X2_init_11 at hf
  obtain ⟨d3, -, hf⟩ := ob hf
  obtain ⟨d4, -, hf⟩ := ob hf
  obtain ⟨d5, -, hf⟩ := ob hf
  cases hf
  exact Le.rf
set_option maxRecDepth 20000 in
theorem zb_X2_init_11 {N : Nat} {r : AS} {E : EV} (hE : TG E none r)   {l0 : Nat} {s : AS} (hf : f_X2_init_11 N l0 s = some r) : Z E yX2_init cX2_init 1 none 1 s 11 [(0, .ref l0)] [] := by
  unfold f_X2_init_11 at hf
  refine z_aload_n 0 dX2_init_11 rfl rfl ?_
  refine z_iconst 0 0 dX2_init_12 (by decide) ?_
  refine z_pI (ci := 2) (k := 1) (C := RX2) (T := TX2) (N := 4) rfl inlX2 (by decide) mw_3_3 (fun _ _ _ _ h9 => h9) tyX2 tyX2_ok nmX2 rfl hf (Or.inl (by decide)) rfl rfl rfl dX2_init_13  (fun d3 hf => ?_)
  refine z_aload_n 0 dX2_init_16 rfl rfl ?_
  refine z_iconst 0 0 dX2_init_17 (by decide) ?_
  refine z_pI (ci := 2) (k := 2) (C := RX2) (T := TX2) (N := 4) rfl inlX2 (by decide) mw_3_4 (fun _ _ _ _ h9 => h9) tyX2 tyX2_ok nmX2 rfl hf (Or.inl (by decide)) rfl rfl rfl dX2_init_18  (fun d4 hf => ?_)
  refine z_aload_n 0 dX2_init_21 rfl rfl ?_
  refine z_iconst 0 0 dX2_init_22 (by decide) ?_
  refine z_pI (ci := 2) (k := 3) (C := RX2) (T := TX2) (N := 4) rfl inlX2 (by decide) mw_3_5 (fun _ _ _ _ h9 => h9) tyX2 tyX2_ok nmX2 rfl hf (Or.inl (by decide)) rfl rfl rfl dX2_init_23  (fun d5 hf => ?_)
  cases hf
  exact z_return hE rfl dX2_init_26
set_option maxRecDepth 20000 in
theorem le_X2_init_8 {N : Nat} {r : AS}  {l0 : Nat} {t0 : Nat} {t1 : Nat} {s : AS} (hf : f_X2_init_8 N l0 t0 t1 s = some r) : Le s r := by
  unfold f_X2_init_8 at hf
  obtain ⟨s2, es2, hf⟩ := ob hf
  refine Le.of (t := (s.1, s.2)) rfl ((le_pP es2).tr ?_)
  exact Le.via (le_X2_init_11 hf) rfl
set_option maxRecDepth 20000 in
theorem zb_X2_init_8 {N : Nat} {r : AS} {E : EV} (hE : TG E none r)   {l0 : Nat} {t0 : Nat} {t1 : Nat} {s : AS} (hf : f_X2_init_8 N l0 t0 t1 s = some r) : Z E yX2_init cX2_init 1 none 1 s 8 [(0, .ref l0)] [.ref t1, .ref t0] := by
  unfold f_X2_init_8 at hf
  refine z_pP (ci := 2) (k := 0) (C := RX2) (T := TX2) (N := 4) rfl inlX2 (by decide) mw_3_2 (fun _ _ _ _ h9 => h9) tyX2 tyX2_ok nmX2 rfl rfl rfl hf (Or.inl (by decide)) rfl rfl rfl dX2_init_8 (fun s2 es2 hf => ?_)
  exact zb_X2_init_11 hE hf
set_option maxRecDepth 20000 in
theorem lm_X2_init {N : Nat} {s : AS} {l0 : Nat} {r : AS} (hf : f_X2_init N l0 s = some r) : Le s r := by
  unfold f_X2_init at hf
  refine ite_c hf (fun hf => ?_) (fun hf => ?_)
  · skip
    obtain ⟨s1, es1, hf⟩ := ob hf
    refine Le.of (t := (s.1, s.2)) rfl ((le_nArr es1).tr ?_)
    exact Le.via (le_X2_init_8 hf) rfl
  · cases hf
set_option maxRecDepth 20000 in
theorem zm_X2_init {N : Nat} {s : AS} {l0 : Nat} {r : AS} (hf : f_X2_init N l0 s = some r) : isO s.1 l0 2 ∧ ∀ (l : Launch) (G : GG), Mt l G yX2_init cX2_init 1 none 1 [.ref l0] s none r := by
  have hf0 := hf
  unfold f_X2_init at hf
  refine ite_d hf (fun hO hf => ?_) (fun _ hf => ?_)
  · refine ⟨hO, fun l G => mt_of (Or.inl (by decide)) (Nat.le_of_ble_eq_true rfl) (lm_X2_init hf0) (fun E hE => ?_)⟩
    show Z E yX2_init cX2_init 1 none 1 s 0 [(0, .ref l0)] []
    refine z_aload_n 0 dX2_init_0 rfl rfl ?_
    refine z_objInit mw_3_1 mw_1_10 mw_1_11 (by decide) (Nat.le_of_ble_eq_true rfl) dX2_init_1 ?_
    refine z_aload_n 0 dX2_init_4 rfl rfl ?_
    refine z_iconst 5 5 dX2_init_5 (by decide) ?_
    refine z_na0 hf (fun _ hf => tg_le hE (le_X2_init_8 hf)) mw_2_13 dX2_init_6 (fun s1 hf => ?_)
    exact zb_X2_init_8 hE hf
  · cases hf
set_option maxRecDepth 20000 in
theorem le_X8_init_19 {N : Nat} {r : AS}   {s : AS} (hf : f_X8_init_19 N  s = some r) : Le s r := by
  unfold f_X8_init_19 at hf
  cases hf
  exact Le.rf
set_option maxRecDepth 20000 in
theorem zb_X8_init_19 {N : Nat} {r : AS} {E : EV} (hE : TG E none r)    {s : AS} (hf : f_X8_init_19 N  s = some r) : Z E yX8_init cX8_init 3 none 1 s 19 [] [] := by
  unfold f_X8_init_19 at hf
  cases hf
  exact z_return hE rfl dX8_init_19
set_option maxRecDepth 20000 in
theorem le_X8_init_16 {N : Nat} {r : AS}  {t0 : Nat} {t1 : Nat} {s : AS} (hf : f_X8_init_16 N t0 t1 s = some r) : Le s r := by
  unfold f_X8_init_16 at hf
  obtain ⟨s3, es3, hf⟩ := ob hf
  refine Le.of (t := (s.1, s.2)) rfl ((le_pP es3).tr ?_)
  exact Le.via (le_X8_init_19 hf) rfl
set_option maxRecDepth 20000 in
theorem zb_X8_init_16 {N : Nat} {r : AS} {E : EV} (hE : TG E none r)   {t0 : Nat} {t1 : Nat} {s : AS} (hf : f_X8_init_16 N t0 t1 s = some r) : Z E yX8_init cX8_init 3 none 1 s 16 [] [.ref t1, .ref t0] := by
  unfold f_X8_init_16 at hf
  refine z_pP (ci := 8) (k := 0) (C := RX8) (T := TX8) (N := 2) rfl inlX8 (by decide) mw_4_4 (fun _ _ _ _ h9 => h9) tyX8 tyX8_ok nmX8 rfl rfl rfl hf (Or.inl (by decide)) rfl rfl rfl dX8_init_16 (fun s3 es3 hf => ?_)
  exact zb_X8_init_19 hE hf
set_option maxRecDepth 20000 in
theorem lm_X8_init {N : Nat} {s : AS} {l0 : Nat} {l1 : Int32} {l2 : Int32} {r : AS} (hf : f_X8_init N l0 l1 l2 s = some r) : Le s r := by
  unfold f_X8_init at hf
  refine ite_c hf (fun hf => ?_) (fun hf => ?_)
  · skip
    obtain ⟨d1, -, hf⟩ := ob hf
    obtain ⟨s2, es2, hf⟩ := ob hf
    refine Le.of (t := (s.1, d1)) rfl ((le_nMul es2).tr ?_)
    exact Le.via (le_X8_init_16 hf) rfl
  · cases hf
set_option maxRecDepth 20000 in
theorem zm_X8_init {N : Nat} {s : AS} {l0 : Nat} {l1 : Int32} {l2 : Int32} {r : AS} (hf : f_X8_init N l0 l1 l2 s = some r) : isO s.1 l0 8 ∧ ∀ (l : Launch) (G : GG), Mt l G yX8_init cX8_init 3 none 1 [.ref l0, .int l1, .int l2] s none r := by
  have hf0 := hf
  unfold f_X8_init at hf
  refine ite_d hf (fun hO hf => ?_) (fun _ hf => ?_)
  · refine ⟨hO, fun l G => mt_of (Or.inl (by decide)) (Nat.le_of_ble_eq_true rfl) (lm_X8_init hf0) (fun E hE => ?_)⟩
    show Z E yX8_init cX8_init 3 none 1 s 0 [(0, .ref l0), (1, .int l1), (2, .int l2)] []
    refine z_aload_n 0 dX8_init_0 rfl rfl ?_
    refine z_objInit mw_4_1 mw_1_10 mw_1_11 (by decide) (Nat.le_of_ble_eq_true rfl) dX8_init_1 ?_
    refine z_aload_n 0 dX8_init_4 rfl rfl ?_
    refine z_iconst 0 0 dX8_init_5 (by decide) ?_
    refine z_pI (ci := 8) (k := 1) (C := RX8) (T := TX8) (N := 2) rfl inlX8 (by decide) mw_4_2 (fun _ _ _ _ h9 => h9) tyX8 tyX8_ok nmX8 rfl hf (Or.inl (by decide)) rfl rfl rfl dX8_init_6  (fun d1 hf => ?_)
    refine z_aload_n 0 dX8_init_9 rfl rfl ?_
    refine z_iload_n 1 dX8_init_10 rfl rfl ?_
    refine z_iload_n 2 dX8_init_11 rfl rfl ?_
    refine z_mul hf (fun _ hf => tg_le hE (le_X8_init_16 hf)) mw_4_3 mw_2_13 dX8_init_12 (fun s2 hf => ?_)
    refine z_lv [] [] rfl ?_
    exact zb_X8_init_16 hE hf
  · cases hf
set_option maxRecDepth 20000 in
theorem le_X1_init_85 {N : Nat} {r : AS}  {l0 : Nat} {t0 : Nat} {t1 : Nat} {s : AS} (hf : f_X1_init_85 N l0 t0 t1 s = some r) : Le s r := by
  unfold f_X1_init_85 at hf
  obtain ⟨d15, -, hf⟩ := ob hf
  obtain ⟨v16, -, hf⟩ := ob hf
  obtain ⟨v17, -, hf⟩ := ob hf
  cases hf
  exact Le.rf
set_option maxRecDepth 20000 in
theorem zb_X1_init_85 {N : Nat} {r : AS} {E : EV} (hE : TG E none r)   {l0 : Nat} {t0 : Nat} {t1 : Nat} {s : AS} (hf : f_X1_init_85 N l0 t0 t1 s = some r) : Z E yX1_init cX1_init 1 none 2 s 85 [(0, .ref l0)] [.ref t1, .ref t0] := by
  unfold f_X1_init_85 at hf
  refine z_pQ (ci := 1) (k := 7) (C := RX1) (T := TX1) (N := 8) rfl inlX1 (by decide) mw_3_21 (fun _ _ _ _ h9 => h9) tyX1 tyX1_ok nmX1 rfl hf (by decide) rfl rfl rfl dX1_init_85  (fun d15 hf => ?_)
  refine z_aload_n 0 dX1_init_88 rfl rfl ?_
  refine z_gP (ci := 1) (k := 6) (C := RX1) (T := TX1) (N := 8) rfl inlX1 (by decide) mw_3_19 (fun _ _ _ _ h9 => h9) hf (by decide) rfl dX1_init_89  (fun v16 hf => ?_)
  refine z_iconst (-1) (-1) dX1_init_92 (by decide) ?_
  obtain ⟨v17, ev17, hf⟩ := ob hf
  refine z_cTv (As := [.ref v16, .int (-1 : Int32)]) (rest := []) (zm_J7_fill_53178 ev17) (Or.inl rfl) mw_4_5 mw_4_6 mw_4_7 mw_4_8 yk_J7_fill_53178 (by decide) (by decide) rfl (Nat.le_of_ble_eq_true rfl) rfl dX1_init_93 ?_
  cases hf
  exact z_return hE rfl dX1_init_96
set_option maxRecDepth 20000 in
theorem le_X1_init_81 {N : Nat} {r : AS}  {l0 : Nat} {s : AS} (hf : f_X1_init_81 N l0 s = some r) : Le s r := by
  unfold f_X1_init_81 at hf
  obtain ⟨s14, es14, hf⟩ := ob hf
  refine Le.of (t := (s.1, s.2)) rfl ((le_nArr es14).tr ?_)
  exact Le.via (le_X1_init_85 hf) rfl
set_option maxRecDepth 20000 in
theorem zb_X1_init_81 {N : Nat} {r : AS} {E : EV} (hE : TG E none r)   {l0 : Nat} {s : AS} (hf : f_X1_init_81 N l0 s = some r) : Z E yX1_init cX1_init 1 none 2 s 81 [(0, .ref l0)] [] := by
  unfold f_X1_init_81 at hf
  refine z_aload_n 0 dX1_init_81 rfl rfl ?_
  refine z_iconst 0 0 dX1_init_82 (by decide) ?_
  refine z_na1 hf (fun _ hf => tg_le hE (le_X1_init_85 hf)) mw_3_20 dX1_init_83 (fun s14 hf => ?_)
  exact zb_X1_init_85 hE hf
set_option maxRecDepth 20000 in
theorem le_X1_init_78 {N : Nat} {r : AS}  {l0 : Nat} {t0 : Nat} {t1 : Nat} {s : AS} (hf : f_X1_init_78 N l0 t0 t1 s = some r) : Le s r := by
  unfold f_X1_init_78 at hf
  obtain ⟨s13, es13, hf⟩ := ob hf
  refine Le.of (t := (s.1, s.2)) rfl ((le_pP es13).tr ?_)
  exact Le.via (le_X1_init_81 hf) rfl
set_option maxRecDepth 20000 in
theorem zb_X1_init_78 {N : Nat} {r : AS} {E : EV} (hE : TG E none r)   {l0 : Nat} {t0 : Nat} {t1 : Nat} {s : AS} (hf : f_X1_init_78 N l0 t0 t1 s = some r) : Z E yX1_init cX1_init 1 none 2 s 78 [(0, .ref l0)] [.ref t1, .ref t0] := by
  unfold f_X1_init_78 at hf
  refine z_pP (ci := 1) (k := 6) (C := RX1) (T := TX1) (N := 8) rfl inlX1 (by decide) mw_3_19 (fun _ _ _ _ h9 => h9) tyX1 tyX1_ok nmX1 rfl rfl rfl hf (Or.inl (by decide)) rfl rfl rfl dX1_init_78 (fun s13 es13 hf => ?_)
  exact zb_X1_init_81 hE hf
set_option maxRecDepth 20000 in
theorem le_X1_init_73 {N : Nat} {r : AS}  {l0 : Nat} {s : AS} (hf : f_X1_init_73 N l0 s = some r) : Le s r := by
  unfold f_X1_init_73 at hf
  obtain ⟨s12, es12, hf⟩ := ob hf
  refine Le.of (t := (s.1, s.2)) rfl ((le_nArr es12).tr ?_)
  exact Le.via (le_X1_init_78 hf) rfl
set_option maxRecDepth 20000 in
theorem zb_X1_init_73 {N : Nat} {r : AS} {E : EV} (hE : TG E none r)   {l0 : Nat} {s : AS} (hf : f_X1_init_73 N l0 s = some r) : Z E yX1_init cX1_init 1 none 2 s 73 [(0, .ref l0)] [] := by
  unfold f_X1_init_73 at hf
  refine z_aload_n 0 dX1_init_73 rfl rfl ?_
  refine z_bipush 60 60 dX1_init_74 (by decide) ?_
  refine z_na0 hf (fun _ hf => tg_le hE (le_X1_init_78 hf)) mw_2_13 dX1_init_76 (fun s12 hf => ?_)
  exact zb_X1_init_78 hE hf
set_option maxRecDepth 20000 in
theorem le_X1_init_70 {N : Nat} {r : AS}  {l0 : Nat} {t0 : Nat} {t1 : Nat} {s : AS} (hf : f_X1_init_70 N l0 t0 t1 s = some r) : Le s r := by
  unfold f_X1_init_70 at hf
  obtain ⟨s11, es11, hf⟩ := ob hf
  refine Le.of (t := (s.1, s.2)) rfl ((le_pP es11).tr ?_)
  exact Le.via (le_X1_init_73 hf) rfl
set_option maxRecDepth 20000 in
theorem zb_X1_init_70 {N : Nat} {r : AS} {E : EV} (hE : TG E none r)   {l0 : Nat} {t0 : Nat} {t1 : Nat} {s : AS} (hf : f_X1_init_70 N l0 t0 t1 s = some r) : Z E yX1_init cX1_init 1 none 2 s 70 [(0, .ref l0)] [.ref t1, .ref t0] := by
  unfold f_X1_init_70 at hf
  refine z_pP (ci := 1) (k := 5) (C := RX1) (T := TX1) (N := 8) rfl inlX1 (by decide) mw_3_18 (fun _ _ _ _ h9 => h9) tyX1 tyX1_ok nmX1 rfl rfl rfl hf (Or.inl (by decide)) rfl rfl rfl dX1_init_70 (fun s11 es11 hf => ?_)
  exact zb_X1_init_73 hE hf
set_option maxRecDepth 20000 in
theorem le_X1_init_65 {N : Nat} {r : AS}  {l0 : Nat} {s : AS} (hf : f_X1_init_65 N l0 s = some r) : Le s r := by
  unfold f_X1_init_65 at hf
  obtain ⟨s10, es10, hf⟩ := ob hf
  refine Le.of (t := (s.1, s.2)) rfl ((le_nArr es10).tr ?_)
  exact Le.via (le_X1_init_70 hf) rfl
set_option maxRecDepth 20000 in
theorem zb_X1_init_65 {N : Nat} {r : AS} {E : EV} (hE : TG E none r)   {l0 : Nat} {s : AS} (hf : f_X1_init_65 N l0 s = some r) : Z E yX1_init cX1_init 1 none 2 s 65 [(0, .ref l0)] [] := by
  unfold f_X1_init_65 at hf
  refine z_aload_n 0 dX1_init_65 rfl rfl ?_
  refine z_bipush 7 7 dX1_init_66 (by decide) ?_
  refine z_na0 hf (fun _ hf => tg_le hE (le_X1_init_70 hf)) mw_2_13 dX1_init_68 (fun s10 hf => ?_)
  exact zb_X1_init_70 hE hf
set_option maxRecDepth 20000 in
theorem le_X1_init_62 {N : Nat} {r : AS}  {l0 : Nat} {t0 : Nat} {t1 : Nat} {s : AS} (hf : f_X1_init_62 N l0 t0 t1 s = some r) : Le s r := by
  unfold f_X1_init_62 at hf
  obtain ⟨s9, es9, hf⟩ := ob hf
  refine Le.of (t := (s.1, s.2)) rfl ((le_pP es9).tr ?_)
  exact Le.via (le_X1_init_65 hf) rfl
set_option maxRecDepth 20000 in
theorem zb_X1_init_62 {N : Nat} {r : AS} {E : EV} (hE : TG E none r)   {l0 : Nat} {t0 : Nat} {t1 : Nat} {s : AS} (hf : f_X1_init_62 N l0 t0 t1 s = some r) : Z E yX1_init cX1_init 1 none 2 s 62 [(0, .ref l0)] [.ref t1, .ref t0] := by
  unfold f_X1_init_62 at hf
  refine z_pP (ci := 1) (k := 4) (C := RX1) (T := TX1) (N := 8) rfl inlX1 (by decide) mw_3_17 (fun _ _ _ _ h9 => h9) tyX1 tyX1_ok nmX1 rfl rfl rfl hf (Or.inl (by decide)) rfl rfl rfl dX1_init_62 (fun s9 es9 hf => ?_)
  exact zb_X1_init_65 hE hf
set_option maxRecDepth 20000 in
theorem le_X1_init_55 {N : Nat} {r : AS}  {l0 : Nat} {t0 : Nat} {t1 : Nat} {s : AS} (hf : f_X1_init_55 N l0 t0 t1 s = some r) : Le s r := by
  unfold f_X1_init_55 at hf
  obtain ⟨v8, ev8, hf⟩ := ob hf
  refine Le.of (t := (s.1, s.2)) rfl ((lm_X8_init ev8).tr ?_)
  exact Le.via (le_X1_init_62 hf) rfl
set_option maxRecDepth 20000 in
theorem zb_X1_init_55 {N : Nat} {r : AS} {E : EV} (hE : TG E none r)   {l0 : Nat} {t0 : Nat} {t1 : Nat} {s : AS} (hf : f_X1_init_55 N l0 t0 t1 s = some r) : Z E yX1_init cX1_init 1 none 2 s 55 [(0, .ref l0)] [.ref t1, .ref t0] := by
  unfold f_X1_init_55 at hf
  refine z_dup dX1_init_55 rfl ?_
  refine z_iconst 4 4 dX1_init_56 (by decide) ?_
  refine z_bipush 16 16 dX1_init_57 (by decide) ?_
  obtain ⟨v8, ev8, hf⟩ := ob hf
  refine z_cI (As := [.int (4 : Int32), .int (16 : Int32)]) (rest := [.ref t1, .ref t0]) (zm_X8_init ev8).2 (Or.inr (tg_le hE (le_X1_init_62 hf))) mw_3_22 mw_3_23 mw_3_13 mw_4_0 rfl yk_X8_init (by decide) (by decide) rfl (Nat.le_of_ble_eq_true rfl) rfl dX1_init_59 ?_
  exact zb_X1_init_62 hE hf
set_option maxRecDepth 20000 in
theorem le_X1_init_51 {N : Nat} {r : AS}  {l0 : Nat} {s : AS} (hf : f_X1_init_51 N l0 s = some r) : Le s r := by
  unfold f_X1_init_51 at hf
  refine Le.of (t := (s.1, s.2)) rfl (le_nObj.tr (u := _) (t := nObj (s.1, s.2) 8) ?_)
  exact Le.via (le_X1_init_55 hf) rfl
set_option maxRecDepth 20000 in
theorem zb_X1_init_51 {N : Nat} {r : AS} {E : EV} (hE : TG E none r)   {l0 : Nat} {s : AS} (hf : f_X1_init_51 N l0 s = some r) : Z E yX1_init cX1_init 1 none 2 s 51 [(0, .ref l0)] [] := by
  unfold f_X1_init_51 at hf
  refine z_aload_n 0 dX1_init_51 rfl rfl ?_
  refine z_newo (ci := 8) (C := RX8) (T := TX8) (N := 2) rfl inlX8 tyX8 tyX8_ok mw_3_11 mw_3_12 mw_3_13 rfl df_8 (tg_le hE (le_X1_init_55 hf)) dX1_init_52 ?_
  exact zb_X1_init_55 hE hf
set_option maxRecDepth 20000 in
theorem le_X1_init_48 {N : Nat} {r : AS}  {l0 : Nat} {t0 : Nat} {t1 : Nat} {s : AS} (hf : f_X1_init_48 N l0 t0 t1 s = some r) : Le s r := by
  unfold f_X1_init_48 at hf
  obtain ⟨s7, es7, hf⟩ := ob hf
  refine Le.of (t := (s.1, s.2)) rfl ((le_pP es7).tr ?_)
  exact Le.via (le_X1_init_51 hf) rfl
set_option maxRecDepth 20000 in
theorem zb_X1_init_48 {N : Nat} {r : AS} {E : EV} (hE : TG E none r)   {l0 : Nat} {t0 : Nat} {t1 : Nat} {s : AS} (hf : f_X1_init_48 N l0 t0 t1 s = some r) : Z E yX1_init cX1_init 1 none 2 s 48 [(0, .ref l0)] [.ref t1, .ref t0] := by
  unfold f_X1_init_48 at hf
  refine z_pP (ci := 1) (k := 3) (C := RX1) (T := TX1) (N := 8) rfl inlX1 (by decide) mw_3_16 (fun _ _ _ _ h9 => h9) tyX1 tyX1_ok nmX1 rfl rfl rfl hf (Or.inl (by decide)) rfl rfl rfl dX1_init_48 (fun s7 es7 hf => ?_)
  exact zb_X1_init_51 hE hf
set_option maxRecDepth 20000 in
theorem le_X1_init_41 {N : Nat} {r : AS}  {l0 : Nat} {t0 : Nat} {t1 : Nat} {s : AS} (hf : f_X1_init_41 N l0 t0 t1 s = some r) : Le s r := by
  unfold f_X1_init_41 at hf
  obtain ⟨v6, ev6, hf⟩ := ob hf
  refine Le.of (t := (s.1, s.2)) rfl ((lm_X8_init ev6).tr ?_)
  exact Le.via (le_X1_init_48 hf) rfl
set_option maxRecDepth 20000 in
theorem zb_X1_init_41 {N : Nat} {r : AS} {E : EV} (hE : TG E none r)   {l0 : Nat} {t0 : Nat} {t1 : Nat} {s : AS} (hf : f_X1_init_41 N l0 t0 t1 s = some r) : Z E yX1_init cX1_init 1 none 2 s 41 [(0, .ref l0)] [.ref t1, .ref t0] := by
  unfold f_X1_init_41 at hf
  refine z_dup dX1_init_41 rfl ?_
  refine z_bipush 9 9 dX1_init_42 (by decide) ?_
  refine z_iconst 4 4 dX1_init_44 (by decide) ?_
  obtain ⟨v6, ev6, hf⟩ := ob hf
  refine z_cI (As := [.int (9 : Int32), .int (4 : Int32)]) (rest := [.ref t1, .ref t0]) (zm_X8_init ev6).2 (Or.inr (tg_le hE (le_X1_init_48 hf))) mw_3_22 mw_3_23 mw_3_13 mw_4_0 rfl yk_X8_init (by decide) (by decide) rfl (Nat.le_of_ble_eq_true rfl) rfl dX1_init_45 ?_
  exact zb_X1_init_48 hE hf
set_option maxRecDepth 20000 in
theorem le_X1_init_37 {N : Nat} {r : AS}  {l0 : Nat} {s : AS} (hf : f_X1_init_37 N l0 s = some r) : Le s r := by
  unfold f_X1_init_37 at hf
  refine Le.of (t := (s.1, s.2)) rfl (le_nObj.tr (u := _) (t := nObj (s.1, s.2) 8) ?_)
  exact Le.via (le_X1_init_41 hf) rfl
set_option maxRecDepth 20000 in
theorem zb_X1_init_37 {N : Nat} {r : AS} {E : EV} (hE : TG E none r)   {l0 : Nat} {s : AS} (hf : f_X1_init_37 N l0 s = some r) : Z E yX1_init cX1_init 1 none 2 s 37 [(0, .ref l0)] [] := by
  unfold f_X1_init_37 at hf
  refine z_aload_n 0 dX1_init_37 rfl rfl ?_
  refine z_newo (ci := 8) (C := RX8) (T := TX8) (N := 2) rfl inlX8 tyX8 tyX8_ok mw_3_11 mw_3_12 mw_3_13 rfl df_8 (tg_le hE (le_X1_init_41 hf)) dX1_init_38 ?_
  exact zb_X1_init_41 hE hf
set_option maxRecDepth 20000 in
theorem le_X1_init_34 {N : Nat} {r : AS}  {l0 : Nat} {t0 : Nat} {t1 : Nat} {s : AS} (hf : f_X1_init_34 N l0 t0 t1 s = some r) : Le s r := by
  unfold f_X1_init_34 at hf
  obtain ⟨s5, es5, hf⟩ := ob hf
  refine Le.of (t := (s.1, s.2)) rfl ((le_pP es5).tr ?_)
  exact Le.via (le_X1_init_37 hf) rfl
set_option maxRecDepth 20000 in
theorem zb_X1_init_34 {N : Nat} {r : AS} {E : EV} (hE : TG E none r)   {l0 : Nat} {t0 : Nat} {t1 : Nat} {s : AS} (hf : f_X1_init_34 N l0 t0 t1 s = some r) : Z E yX1_init cX1_init 1 none 2 s 34 [(0, .ref l0)] [.ref t1, .ref t0] := by
  unfold f_X1_init_34 at hf
  refine z_pP (ci := 1) (k := 2) (C := RX1) (T := TX1) (N := 8) rfl inlX1 (by decide) mw_3_15 (fun _ _ _ _ h9 => h9) tyX1 tyX1_ok nmX1 rfl rfl rfl hf (Or.inl (by decide)) rfl rfl rfl dX1_init_34 (fun s5 es5 hf => ?_)
  exact zb_X1_init_37 hE hf
set_option maxRecDepth 20000 in
theorem le_X1_init_28 {N : Nat} {r : AS}  {l0 : Nat} {t0 : Nat} {t1 : Nat} {s : AS} (hf : f_X1_init_28 N l0 t0 t1 s = some r) : Le s r := by
  unfold f_X1_init_28 at hf
  obtain ⟨v4, ev4, hf⟩ := ob hf
  refine Le.of (t := (s.1, s.2)) rfl ((lm_X8_init ev4).tr ?_)
  exact Le.via (le_X1_init_34 hf) rfl
set_option maxRecDepth 20000 in
theorem zb_X1_init_28 {N : Nat} {r : AS} {E : EV} (hE : TG E none r)   {l0 : Nat} {t0 : Nat} {t1 : Nat} {s : AS} (hf : f_X1_init_28 N l0 t0 t1 s = some r) : Z E yX1_init cX1_init 1 none 2 s 28 [(0, .ref l0)] [.ref t1, .ref t0] := by
  unfold f_X1_init_28 at hf
  refine z_dup dX1_init_28 rfl ?_
  refine z_iconst 3 3 dX1_init_29 (by decide) ?_
  refine z_iconst 4 4 dX1_init_30 (by decide) ?_
  obtain ⟨v4, ev4, hf⟩ := ob hf
  refine z_cI (As := [.int (3 : Int32), .int (4 : Int32)]) (rest := [.ref t1, .ref t0]) (zm_X8_init ev4).2 (Or.inr (tg_le hE (le_X1_init_34 hf))) mw_3_22 mw_3_23 mw_3_13 mw_4_0 rfl yk_X8_init (by decide) (by decide) rfl (Nat.le_of_ble_eq_true rfl) rfl dX1_init_31 ?_
  exact zb_X1_init_34 hE hf
set_option maxRecDepth 20000 in
theorem le_X1_init_24 {N : Nat} {r : AS}  {l0 : Nat} {s : AS} (hf : f_X1_init_24 N l0 s = some r) : Le s r := by
  unfold f_X1_init_24 at hf
  refine Le.of (t := (s.1, s.2)) rfl (le_nObj.tr (u := _) (t := nObj (s.1, s.2) 8) ?_)
  exact Le.via (le_X1_init_28 hf) rfl
set_option maxRecDepth 20000 in
theorem zb_X1_init_24 {N : Nat} {r : AS} {E : EV} (hE : TG E none r)   {l0 : Nat} {s : AS} (hf : f_X1_init_24 N l0 s = some r) : Z E yX1_init cX1_init 1 none 2 s 24 [(0, .ref l0)] [] := by
  unfold f_X1_init_24 at hf
  refine z_aload_n 0 dX1_init_24 rfl rfl ?_
  refine z_newo (ci := 8) (C := RX8) (T := TX8) (N := 2) rfl inlX8 tyX8 tyX8_ok mw_3_11 mw_3_12 mw_3_13 rfl df_8 (tg_le hE (le_X1_init_28 hf)) dX1_init_25 ?_
  exact zb_X1_init_28 hE hf
set_option maxRecDepth 20000 in
theorem le_X1_init_21 {N : Nat} {r : AS}  {l0 : Nat} {t0 : Nat} {t1 : Nat} {s : AS} (hf : f_X1_init_21 N l0 t0 t1 s = some r) : Le s r := by
  unfold f_X1_init_21 at hf
  obtain ⟨s3, es3, hf⟩ := ob hf
  refine Le.of (t := (s.1, s.2)) rfl ((le_pP es3).tr ?_)
  exact Le.via (le_X1_init_24 hf) rfl
set_option maxRecDepth 20000 in
theorem zb_X1_init_21 {N : Nat} {r : AS} {E : EV} (hE : TG E none r)   {l0 : Nat} {t0 : Nat} {t1 : Nat} {s : AS} (hf : f_X1_init_21 N l0 t0 t1 s = some r) : Z E yX1_init cX1_init 1 none 2 s 21 [(0, .ref l0)] [.ref t1, .ref t0] := by
  unfold f_X1_init_21 at hf
  refine z_pP (ci := 1) (k := 1) (C := RX1) (T := TX1) (N := 8) rfl inlX1 (by decide) mw_3_14 (fun _ _ _ _ h9 => h9) tyX1 tyX1_ok nmX1 rfl rfl rfl hf (Or.inl (by decide)) rfl rfl rfl dX1_init_21 (fun s3 es3 hf => ?_)
  exact zb_X1_init_24 hE hf
set_option maxRecDepth 20000 in
theorem le_X1_init_13 {N : Nat} {r : AS}  {l0 : Nat} {t0 : Nat} {t1 : Nat} {s : AS} (hf : f_X1_init_13 N l0 t0 t1 s = some r) : Le s r := by
  unfold f_X1_init_13 at hf
  obtain ⟨v2, ev2, hf⟩ := ob hf
  refine Le.of (t := (s.1, s.2)) rfl ((lm_X8_init ev2).tr ?_)
  exact Le.via (le_X1_init_21 hf) rfl
set_option maxRecDepth 20000 in
theorem zb_X1_init_13 {N : Nat} {r : AS} {E : EV} (hE : TG E none r)   {l0 : Nat} {t0 : Nat} {t1 : Nat} {s : AS} (hf : f_X1_init_13 N l0 t0 t1 s = some r) : Z E yX1_init cX1_init 1 none 2 s 13 [(0, .ref l0)] [.ref t1, .ref t0] := by
  unfold f_X1_init_13 at hf
  refine z_dup dX1_init_13 rfl ?_
  refine z_bipush 9 9 dX1_init_14 (by decide) ?_
  refine z_bipush 16 16 dX1_init_16 (by decide) ?_
  obtain ⟨v2, ev2, hf⟩ := ob hf
  refine z_cI (As := [.int (9 : Int32), .int (16 : Int32)]) (rest := [.ref t1, .ref t0]) (zm_X8_init ev2).2 (Or.inr (tg_le hE (le_X1_init_21 hf))) mw_3_22 mw_3_23 mw_3_13 mw_4_0 rfl yk_X8_init (by decide) (by decide) rfl (Nat.le_of_ble_eq_true rfl) rfl dX1_init_18 ?_
  exact zb_X1_init_21 hE hf
set_option maxRecDepth 20000 in
theorem lm_X1_init {N : Nat} {s : AS} {l0 : Nat} {r : AS} (hf : f_X1_init N l0 s = some r) : Le s r := by
  unfold f_X1_init at hf
  refine ite_c hf (fun hf => ?_) (fun hf => ?_)
  · skip
    obtain ⟨d1, -, hf⟩ := ob hf
    refine Le.of (t := (s.1, d1)) rfl (le_nObj.tr (u := _) (t := nObj (s.1, d1) 8) ?_)
    exact Le.via (le_X1_init_13 hf) rfl
  · cases hf
set_option maxRecDepth 20000 in
theorem zm_X1_init {N : Nat} {s : AS} {l0 : Nat} {r : AS} (hf : f_X1_init N l0 s = some r) : isO s.1 l0 1 ∧ ∀ (l : Launch) (G : GG), Mt l G yX1_init cX1_init 1 none 2 [.ref l0] s none r := by
  have hf0 := hf
  unfold f_X1_init at hf
  refine ite_d hf (fun hO hf => ?_) (fun _ hf => ?_)
  · refine ⟨hO, fun l G => mt_of (Or.inl (by decide)) (Nat.le_of_ble_eq_true rfl) (lm_X1_init hf0) (fun E hE => ?_)⟩
    show Z E yX1_init cX1_init 1 none 2 s 0 [(0, .ref l0)] []
    refine z_aload_n 0 dX1_init_0 rfl rfl ?_
    refine z_objInit mw_3_9 mw_1_10 mw_1_11 (by decide) (Nat.le_of_ble_eq_true rfl) dX1_init_1 ?_
    refine z_aload_n 0 dX1_init_4 rfl rfl ?_
    refine z_iconst 0 0 dX1_init_5 (by decide) ?_
    refine z_pI (ci := 1) (k := 0) (C := RX1) (T := TX1) (N := 8) rfl inlX1 (by decide) mw_3_10 (fun _ _ _ _ h9 => h9) tyX1 tyX1_ok nmX1 rfl hf (Or.inl (by decide)) rfl rfl rfl dX1_init_6  (fun d1 hf => ?_)
    refine z_aload_n 0 dX1_init_9 rfl rfl ?_
    refine z_newo (ci := 8) (C := RX8) (T := TX8) (N := 2) rfl inlX8 tyX8 tyX8_ok mw_3_11 mw_3_12 mw_3_13 rfl df_8 (tg_le hE (le_X1_init_13 hf)) dX1_init_10 ?_
    exact zb_X1_init_13 hE hf
  · cases hf
set_option maxRecDepth 20000 in
theorem le_X4_init_82 {N : Nat} {r : AS}   {s : AS} (hf : f_X4_init_82 N  s = some r) : Le s r := by
  unfold f_X4_init_82 at hf
  cases hf
  exact Le.rf
set_option maxRecDepth 20000 in
theorem zb_X4_init_82 {N : Nat} {r : AS} {E : EV} (hE : TG E none r)    {s : AS} (hf : f_X4_init_82 N  s = some r) : Z E yX4_init cX4_init 3 none 1 s 82 [] [] := by
  unfold f_X4_init_82 at hf
  cases hf
  exact z_return hE rfl dX4_init_82
set_option maxRecDepth 20000 in
theorem le_X4_init_77 {N : Nat} {r : AS}  {l0 : Nat} {l2 : Nat} {s : AS} (hf : f_X4_init_77 N l0 l2 s = some r) : Le s r := by
  unfold f_X4_init_77 at hf
  obtain ⟨s17, es17, hf⟩ := ob hf
  refine Le.of (t := (s.1, s.2)) rfl ((le_pP es17).tr ?_)
  exact Le.via (le_X4_init_82 hf) rfl
set_option maxRecDepth 20000 in
theorem zb_X4_init_77 {N : Nat} {r : AS} {E : EV} (hE : TG E none r)   {l0 : Nat} {l2 : Nat} {s : AS} (hf : f_X4_init_77 N l0 l2 s = some r) : Z E yX4_init cX4_init 3 none 1 s 77 [(0, .ref l0), (2, .ref l2)] [] := by
  unfold f_X4_init_77 at hf
  refine z_aload_n 0 dX4_init_77 rfl rfl ?_
  refine z_aload_n 1 dX4_init_78 rfl rfl ?_
  refine z_pP (ci := 4) (k := 1) (C := RX4) (T := TX4) (N := 12) rfl inlX4 (by decide) mw_5_12 (fun _ _ _ _ h9 => h9) tyX4 tyX4_ok nmX4 rfl rfl rfl hf (Or.inl (by decide)) rfl rfl rfl dX4_init_79 (fun s17 es17 hf => ?_)
  refine z_lv [] [] rfl ?_
  exact zb_X4_init_82 hE hf
set_option maxRecDepth 20000 in
theorem le_X4_init_62 {N : Nat} {r : AS}  {l0 : Nat} {l1 : Nat} {l2 : Nat} {s : AS} (hf : f_X4_init_62 N l0 l1 l2 s = some r) : Le s r := by
  unfold f_X4_init_62 at hf
  obtain ⟨d14, -, hf⟩ := ob hf
  obtain ⟨d15, -, hf⟩ := ob hf
  obtain ⟨s16, es16, hf⟩ := ob hf
  refine Le.of (t := (s.1, d15)) rfl ((le_pP es16).tr ?_)
  exact Le.via (le_X4_init_77 hf) rfl
set_option maxRecDepth 20000 in
theorem zb_X4_init_62 {N : Nat} {r : AS} {E : EV} (hE : TG E none r)   {l0 : Nat} {l1 : Nat} {l2 : Nat} {s : AS} (hf : f_X4_init_62 N l0 l1 l2 s = some r) : Z E yX4_init cX4_init 3 none 1 s 62 [(0, .ref l0), (1, .ref l1), (2, .ref l2)] [] := by
  unfold f_X4_init_62 at hf
  refine z_aload_n 0 dX4_init_62 rfl rfl ?_
  refine z_iconst 0 0 dX4_init_63 (by decide) ?_
  refine z_pI (ci := 4) (k := 10) (C := RX4) (T := TX4) (N := 12) rfl inlX4 (by decide) mw_5_9 (fun _ _ _ _ h9 => h9) tyX4 tyX4_ok nmX4 rfl hf (Or.inl (by decide)) rfl rfl rfl dX4_init_64  (fun d14 hf => ?_)
  refine z_aload_n 0 dX4_init_67 rfl rfl ?_
  refine z_iconst 0 0 dX4_init_68 (by decide) ?_
  refine z_pI (ci := 4) (k := 11) (C := RX4) (T := TX4) (N := 12) rfl inlX4 (by decide) mw_5_10 (fun _ _ _ _ h9 => h9) tyX4 tyX4_ok nmX4 rfl hf (Or.inl (by decide)) rfl rfl rfl dX4_init_69  (fun d15 hf => ?_)
  refine z_aload_n 0 dX4_init_72 rfl rfl ?_
  refine z_aload_n 1 dX4_init_73 rfl rfl ?_
  refine z_pP (ci := 4) (k := 0) (C := RX4) (T := TX4) (N := 12) rfl inlX4 (by decide) mw_5_11 (fun _ _ _ _ h9 => h9) tyX4 tyX4_ok nmX4 rfl rfl rfl hf (Or.inl (by decide)) rfl rfl rfl dX4_init_74 (fun s16 es16 hf => ?_)
  refine z_lv [(0, .ref l0), (2, .ref l2)] [0, 2] rfl ?_
  exact zb_X4_init_77 hE hf
set_option maxRecDepth 20000 in
theorem le_X4_init_59 {N : Nat} {r : AS}  {l0 : Nat} {l1 : Nat} {l2 : Nat} {t0 : Nat} {t1 : Nat} {s : AS} (hf : f_X4_init_59 N l0 l1 l2 t0 t1 s = some r) : Le s r := by
  unfold f_X4_init_59 at hf
  obtain ⟨s13, es13, hf⟩ := ob hf
  refine Le.of (t := (s.1, s.2)) rfl ((le_pP es13).tr ?_)
  exact Le.via (le_X4_init_62 hf) rfl
set_option maxRecDepth 20000 in
theorem zb_X4_init_59 {N : Nat} {r : AS} {E : EV} (hE : TG E none r)   {l0 : Nat} {l1 : Nat} {l2 : Nat} {t0 : Nat} {t1 : Nat} {s : AS} (hf : f_X4_init_59 N l0 l1 l2 t0 t1 s = some r) : Z E yX4_init cX4_init 3 none 1 s 59 [(0, .ref l0), (1, .ref l1), (2, .ref l2)] [.ref t1, .ref t0] := by
  unfold f_X4_init_59 at hf
  refine z_pP (ci := 4) (k := 9) (C := RX4) (T := TX4) (N := 12) rfl inlX4 (by decide) mw_5_8 (fun _ _ _ _ h9 => h9) tyX4 tyX4_ok nmX4 rfl rfl rfl hf (Or.inl (by decide)) rfl rfl rfl dX4_init_59 (fun s13 es13 hf => ?_)
  exact zb_X4_init_62 hE hf
set_option maxRecDepth 20000 in
theorem le_X4_init_54 {N : Nat} {r : AS}  {l0 : Nat} {l1 : Nat} {l2 : Nat} {s : AS} (hf : f_X4_init_54 N l0 l1 l2 s = some r) : Le s r := by
  unfold f_X4_init_54 at hf
  obtain ⟨s12, es12, hf⟩ := ob hf
  refine Le.of (t := (s.1, s.2)) rfl ((le_nArr es12).tr ?_)
  exact Le.via (le_X4_init_59 hf) rfl
set_option maxRecDepth 20000 in
theorem zb_X4_init_54 {N : Nat} {r : AS} {E : EV} (hE : TG E none r)   {l0 : Nat} {l1 : Nat} {l2 : Nat} {s : AS} (hf : f_X4_init_54 N l0 l1 l2 s = some r) : Z E yX4_init cX4_init 3 none 1 s 54 [(0, .ref l0), (1, .ref l1), (2, .ref l2)] [] := by
  unfold f_X4_init_54 at hf
  refine z_aload_n 0 dX4_init_54 rfl rfl ?_
  refine z_bipush 30 30 dX4_init_55 (by decide) ?_
  refine z_na0 hf (fun _ hf => tg_le hE (le_X4_init_59 hf)) mw_2_13 dX4_init_57 (fun s12 hf => ?_)
  exact zb_X4_init_59 hE hf
set_option maxRecDepth 20000 in
theorem le_X4_init_51 {N : Nat} {r : AS}  {l0 : Nat} {l1 : Nat} {l2 : Nat} {t0 : Nat} {t1 : Nat} {s : AS} (hf : f_X4_init_51 N l0 l1 l2 t0 t1 s = some r) : Le s r := by
  unfold f_X4_init_51 at hf
  obtain ⟨s11, es11, hf⟩ := ob hf
  refine Le.of (t := (s.1, s.2)) rfl ((le_pP es11).tr ?_)
  exact Le.via (le_X4_init_54 hf) rfl
set_option maxRecDepth 20000 in
theorem zb_X4_init_51 {N : Nat} {r : AS} {E : EV} (hE : TG E none r)   {l0 : Nat} {l1 : Nat} {l2 : Nat} {t0 : Nat} {t1 : Nat} {s : AS} (hf : f_X4_init_51 N l0 l1 l2 t0 t1 s = some r) : Z E yX4_init cX4_init 3 none 1 s 51 [(0, .ref l0), (1, .ref l1), (2, .ref l2)] [.ref t1, .ref t0] := by
  unfold f_X4_init_51 at hf
  refine z_pP (ci := 4) (k := 8) (C := RX4) (T := TX4) (N := 12) rfl inlX4 (by decide) mw_5_7 (fun _ _ _ _ h9 => h9) tyX4 tyX4_ok nmX4 rfl rfl rfl hf (Or.inl (by decide)) rfl rfl rfl dX4_init_51 (fun s11 es11 hf => ?_)
  exact zb_X4_init_54 hE hf
set_option maxRecDepth 20000 in
theorem le_X4_init_38 {N : Nat} {r : AS}  {l0 : Nat} {l1 : Nat} {l2 : Nat} {t0 : Nat} {t1 : Nat} {s : AS} (hf : f_X4_init_38 N l0 l1 l2 t0 t1 s = some r) : Le s r := by
  unfold f_X4_init_38 at hf
  obtain ⟨d8, -, hf⟩ := ob hf
  obtain ⟨d9, -, hf⟩ := ob hf
  obtain ⟨s10, es10, hf⟩ := ob hf
  refine Le.of (t := (s.1, d9)) rfl ((le_nArr es10).tr ?_)
  exact Le.via (le_X4_init_51 hf) rfl
set_option maxRecDepth 20000 in
theorem zb_X4_init_38 {N : Nat} {r : AS} {E : EV} (hE : TG E none r)   {l0 : Nat} {l1 : Nat} {l2 : Nat} {t0 : Nat} {t1 : Nat} {s : AS} (hf : f_X4_init_38 N l0 l1 l2 t0 t1 s = some r) : Z E yX4_init cX4_init 3 none 1 s 38 [(0, .ref l0), (1, .ref l1), (2, .ref l2)] [.ref t1, .ref t0] := by
  unfold f_X4_init_38 at hf
  refine z_pQ (ci := 4) (k := 6) (C := RX4) (T := TX4) (N := 12) rfl inlX4 (by decide) mw_5_5 (fun _ _ _ _ h9 => h9) tyX4 tyX4_ok nmX4 rfl hf (by decide) rfl rfl rfl dX4_init_38  (fun d8 hf => ?_)
  refine z_aload_n 0 dX4_init_41 rfl rfl ?_
  refine z_iconst 0 0 dX4_init_42 (by decide) ?_
  refine z_pI (ci := 4) (k := 7) (C := RX4) (T := TX4) (N := 12) rfl inlX4 (by decide) mw_5_6 (fun _ _ _ _ h9 => h9) tyX4 tyX4_ok nmX4 rfl hf (Or.inl (by decide)) rfl rfl rfl dX4_init_43  (fun d9 hf => ?_)
  refine z_aload_n 0 dX4_init_46 rfl rfl ?_
  refine z_bipush 30 30 dX4_init_47 (by decide) ?_
  refine z_na0 hf (fun _ hf => tg_le hE (le_X4_init_51 hf)) mw_2_13 dX4_init_49 (fun s10 hf => ?_)
  exact zb_X4_init_51 hE hf
set_option maxRecDepth 20000 in
theorem le_X4_init_34 {N : Nat} {r : AS}  {l0 : Nat} {l1 : Nat} {l2 : Nat} {s : AS} (hf : f_X4_init_34 N l0 l1 l2 s = some r) : Le s r := by
  unfold f_X4_init_34 at hf
  obtain ⟨s7, es7, hf⟩ := ob hf
  refine Le.of (t := (s.1, s.2)) rfl ((le_nArr es7).tr ?_)
  exact Le.via (le_X4_init_38 hf) rfl
set_option maxRecDepth 20000 in
theorem zb_X4_init_34 {N : Nat} {r : AS} {E : EV} (hE : TG E none r)   {l0 : Nat} {l1 : Nat} {l2 : Nat} {s : AS} (hf : f_X4_init_34 N l0 l1 l2 s = some r) : Z E yX4_init cX4_init 3 none 1 s 34 [(0, .ref l0), (1, .ref l1), (2, .ref l2)] [] := by
  unfold f_X4_init_34 at hf
  refine z_aload_n 0 dX4_init_34 rfl rfl ?_
  refine z_iconst 1 1 dX4_init_35 (by decide) ?_
  refine z_na0 hf (fun _ hf => tg_le hE (le_X4_init_38 hf)) mw_2_13 dX4_init_36 (fun s7 hf => ?_)
  exact zb_X4_init_38 hE hf
set_option maxRecDepth 20000 in
theorem le_X4_init_31 {N : Nat} {r : AS}  {l0 : Nat} {l1 : Nat} {l2 : Nat} {t0 : Nat} {t1 : Nat} {s : AS} (hf : f_X4_init_31 N l0 l1 l2 t0 t1 s = some r) : Le s r := by
  unfold f_X4_init_31 at hf
  obtain ⟨s6, es6, hf⟩ := ob hf
  refine Le.of (t := (s.1, s.2)) rfl ((le_pP es6).tr ?_)
  exact Le.via (le_X4_init_34 hf) rfl
set_option maxRecDepth 20000 in
theorem zb_X4_init_31 {N : Nat} {r : AS} {E : EV} (hE : TG E none r)   {l0 : Nat} {l1 : Nat} {l2 : Nat} {t0 : Nat} {t1 : Nat} {s : AS} (hf : f_X4_init_31 N l0 l1 l2 t0 t1 s = some r) : Z E yX4_init cX4_init 3 none 1 s 31 [(0, .ref l0), (1, .ref l1), (2, .ref l2)] [.ref t1, .ref t0] := by
  unfold f_X4_init_31 at hf
  refine z_pP (ci := 4) (k := 5) (C := RX4) (T := TX4) (N := 12) rfl inlX4 (by decide) mw_5_4 (fun _ _ _ _ h9 => h9) tyX4 tyX4_ok nmX4 rfl rfl rfl hf (Or.inl (by decide)) rfl rfl rfl dX4_init_31 (fun s6 es6 hf => ?_)
  exact zb_X4_init_34 hE hf
set_option maxRecDepth 20000 in
theorem le_X4_init_12 {N : Nat} {r : AS}  {l0 : Nat} {l1 : Nat} {l2 : Nat} {s : AS} (hf : f_X4_init_12 N l0 l1 l2 s = some r) : Le s r := by
  unfold f_X4_init_12 at hf
  obtain ⟨d3, -, hf⟩ := ob hf
  obtain ⟨d4, -, hf⟩ := ob hf
  obtain ⟨s5, es5, hf⟩ := ob hf
  refine Le.of (t := (s.1, d4)) rfl ((le_nMul es5).tr ?_)
  exact Le.via (le_X4_init_31 hf) rfl
set_option maxRecDepth 20000 in
theorem zb_X4_init_12 {N : Nat} {r : AS} {E : EV} (hE : TG E none r)   {l0 : Nat} {l1 : Nat} {l2 : Nat} {s : AS} (hf : f_X4_init_12 N l0 l1 l2 s = some r) : Z E yX4_init cX4_init 3 none 1 s 12 [(0, .ref l0), (1, .ref l1), (2, .ref l2)] [] := by
  unfold f_X4_init_12 at hf
  refine z_aload_n 0 dX4_init_12 rfl rfl ?_
  refine z_iconst 0 0 dX4_init_13 (by decide) ?_
  refine z_pI (ci := 4) (k := 3) (C := RX4) (T := TX4) (N := 12) rfl inlX4 (by decide) mw_5_1 (fun _ _ _ _ h9 => h9) tyX4 tyX4_ok nmX4 rfl hf (Or.inl (by decide)) rfl rfl rfl dX4_init_14  (fun d3 hf => ?_)
  refine z_aload_n 0 dX4_init_17 rfl rfl ?_
  refine z_iconst 0 0 dX4_init_18 (by decide) ?_
  refine z_pI (ci := 4) (k := 4) (C := RX4) (T := TX4) (N := 12) rfl inlX4 (by decide) mw_5_2 (fun _ _ _ _ h9 => h9) tyX4 tyX4_ok nmX4 rfl hf (Or.inl (by decide)) rfl rfl rfl dX4_init_19  (fun d4 hf => ?_)
  refine z_aload_n 0 dX4_init_22 rfl rfl ?_
  refine z_bipush 14 14 dX4_init_23 (by decide) ?_
  refine z_bipush 14 14 dX4_init_25 (by decide) ?_
  refine z_mul hf (fun _ hf => tg_le hE (le_X4_init_31 hf)) mw_5_3 mw_2_13 dX4_init_27 (fun s5 hf => ?_)
  exact zb_X4_init_31 hE hf
set_option maxRecDepth 20000 in
theorem le_X4_init_9 {N : Nat} {r : AS}  {l0 : Nat} {l1 : Nat} {l2 : Nat} {t0 : Nat} {t1 : Nat} {s : AS} (hf : f_X4_init_9 N l0 l1 l2 t0 t1 s = some r) : Le s r := by
  unfold f_X4_init_9 at hf
  obtain ⟨s2, es2, hf⟩ := ob hf
  refine Le.of (t := (s.1, s.2)) rfl ((le_pP es2).tr ?_)
  exact Le.via (le_X4_init_12 hf) rfl
set_option maxRecDepth 20000 in
theorem zb_X4_init_9 {N : Nat} {r : AS} {E : EV} (hE : TG E none r)   {l0 : Nat} {l1 : Nat} {l2 : Nat} {t0 : Nat} {t1 : Nat} {s : AS} (hf : f_X4_init_9 N l0 l1 l2 t0 t1 s = some r) : Z E yX4_init cX4_init 3 none 1 s 9 [(0, .ref l0), (1, .ref l1), (2, .ref l2)] [.ref t1, .ref t0] := by
  unfold f_X4_init_9 at hf
  refine z_pP (ci := 4) (k := 2) (C := RX4) (T := TX4) (N := 12) rfl inlX4 (by decide) mw_5_0 (fun _ _ _ _ h9 => h9) tyX4 tyX4_ok nmX4 rfl rfl rfl hf (Or.inl (by decide)) rfl rfl rfl dX4_init_9 (fun s2 es2 hf => ?_)
  exact zb_X4_init_12 hE hf
set_option maxRecDepth 20000 in
theorem lm_X4_init {N : Nat} {s : AS} {l0 : Nat} {l1 : Nat} {l2 : Nat} {r : AS} (hf : f_X4_init N l0 l1 l2 s = some r) : Le s r := by
  unfold f_X4_init at hf
  refine ite_c hf (fun hf => ?_) (fun hf => ?_)
  · skip
    obtain ⟨s1, es1, hf⟩ := ob hf
    refine Le.of (t := (s.1, s.2)) rfl ((le_nArr es1).tr ?_)
    exact Le.via (le_X4_init_9 hf) rfl
  · cases hf
set_option maxRecDepth 20000 in
theorem zm_X4_init {N : Nat} {s : AS} {l0 : Nat} {l1 : Nat} {l2 : Nat} {r : AS} (hf : f_X4_init N l0 l1 l2 s = some r) : isO s.1 l0 4 ∧ ∀ (l : Launch) (G : GG), Mt l G yX4_init cX4_init 3 none 1 [.ref l0, .ref l1, .ref l2] s none r := by
  have hf0 := hf
  unfold f_X4_init at hf
  refine ite_d hf (fun hO hf => ?_) (fun _ hf => ?_)
  · refine ⟨hO, fun l G => mt_of (Or.inl (by decide)) (Nat.le_of_ble_eq_true rfl) (lm_X4_init hf0) (fun E hE => ?_)⟩
    show Z E yX4_init cX4_init 3 none 1 s 0 [(0, .ref l0), (1, .ref l1), (2, .ref l2)] []
    refine z_aload_n 0 dX4_init_0 rfl rfl ?_
    refine z_objInit mw_4_23 mw_1_10 mw_1_11 (by decide) (Nat.le_of_ble_eq_true rfl) dX4_init_1 ?_
    refine z_aload_n 0 dX4_init_4 rfl rfl ?_
    refine z_bipush 60 60 dX4_init_5 (by decide) ?_
    refine z_na0 hf (fun _ hf => tg_le hE (le_X4_init_9 hf)) mw_2_13 dX4_init_7 (fun s1 hf => ?_)
    exact zb_X4_init_9 hE hf
  · cases hf
set_option maxRecDepth 20000 in
theorem le_X5_init_103 {N : Nat} {r : AS}   {s : AS} (hf : f_X5_init_103 N  s = some r) : Le s r := by
  unfold f_X5_init_103 at hf
  cases hf
  exact Le.rf
set_option maxRecDepth 20000 in
theorem zb_X5_init_103 {N : Nat} {r : AS} {E : EV} (hE : TG E none r)    {s : AS} (hf : f_X5_init_103 N  s = some r) : Z E yX5_init cX5_init 4 none 2 s 103 [] [] := by
  unfold f_X5_init_103 at hf
  cases hf
  exact z_return hE rfl dX5_init_103
set_option maxRecDepth 20000 in
theorem le_X5_init_98 {N : Nat} {r : AS}  {l0 : Nat} {l3 : Nat} {s : AS} (hf : f_X5_init_98 N l0 l3 s = some r) : Le s r := by
  unfold f_X5_init_98 at hf
  obtain ⟨s21, es21, hf⟩ := ob hf
  refine Le.of (t := (s.1, s.2)) rfl ((le_pP es21).tr ?_)
  exact Le.via (le_X5_init_103 hf) rfl
set_option maxRecDepth 20000 in
theorem zb_X5_init_98 {N : Nat} {r : AS} {E : EV} (hE : TG E none r)   {l0 : Nat} {l3 : Nat} {s : AS} (hf : f_X5_init_98 N l0 l3 s = some r) : Z E yX5_init cX5_init 4 none 2 s 98 [(0, .ref l0), (3, .ref l3)] [] := by
  unfold f_X5_init_98 at hf
  refine z_aload_n 0 dX5_init_98 rfl rfl ?_
  refine z_aload_n 1 dX5_init_99 rfl rfl ?_
  refine z_pP (ci := 5) (k := 2) (C := RX5) (T := TX5) (N := 13) rfl inlX5 (by decide) mw_6_6 (fun _ _ _ _ h9 => h9) tyX5 tyX5_ok nmX5 rfl rfl rfl hf (Or.inl (by decide)) rfl rfl rfl dX5_init_100 (fun s21 es21 hf => ?_)
  refine z_lv [] [] rfl ?_
  exact zb_X5_init_103 hE hf
set_option maxRecDepth 20000 in
theorem le_X5_init_93 {N : Nat} {r : AS}  {l0 : Nat} {l2 : Nat} {l3 : Nat} {s : AS} (hf : f_X5_init_93 N l0 l2 l3 s = some r) : Le s r := by
  unfold f_X5_init_93 at hf
  obtain ⟨s20, es20, hf⟩ := ob hf
  refine Le.of (t := (s.1, s.2)) rfl ((le_pP es20).tr ?_)
  exact Le.via (le_X5_init_98 hf) rfl
set_option maxRecDepth 20000 in
theorem zb_X5_init_93 {N : Nat} {r : AS} {E : EV} (hE : TG E none r)   {l0 : Nat} {l2 : Nat} {l3 : Nat} {s : AS} (hf : f_X5_init_93 N l0 l2 l3 s = some r) : Z E yX5_init cX5_init 4 none 2 s 93 [(0, .ref l0), (2, .ref l2), (3, .ref l3)] [] := by
  unfold f_X5_init_93 at hf
  refine z_aload_n 0 dX5_init_93 rfl rfl ?_
  refine z_aload_n 1 dX5_init_94 rfl rfl ?_
  refine z_pP (ci := 5) (k := 1) (C := RX5) (T := TX5) (N := 13) rfl inlX5 (by decide) mw_6_5 (fun _ _ _ _ h9 => h9) tyX5 tyX5_ok nmX5 rfl rfl rfl hf (Or.inl (by decide)) rfl rfl rfl dX5_init_95 (fun s20 es20 hf => ?_)
  refine z_lv [(0, .ref l0), (3, .ref l3)] [0, 2] rfl ?_
  exact zb_X5_init_98 hE hf
set_option maxRecDepth 20000 in
theorem le_X5_init_83 {N : Nat} {r : AS}  {l0 : Nat} {l1 : Nat} {l2 : Nat} {l3 : Nat} {s : AS} (hf : f_X5_init_83 N l0 l1 l2 l3 s = some r) : Le s r := by
  unfold f_X5_init_83 at hf
  obtain ⟨d18, -, hf⟩ := ob hf
  obtain ⟨s19, es19, hf⟩ := ob hf
  refine Le.of (t := (s.1, d18)) rfl ((le_pP es19).tr ?_)
  exact Le.via (le_X5_init_93 hf) rfl
set_option maxRecDepth 20000 in
theorem zb_X5_init_83 {N : Nat} {r : AS} {E : EV} (hE : TG E none r)   {l0 : Nat} {l1 : Nat} {l2 : Nat} {l3 : Nat} {s : AS} (hf : f_X5_init_83 N l0 l1 l2 l3 s = some r) : Z E yX5_init cX5_init 4 none 2 s 83 [(0, .ref l0), (1, .ref l1), (2, .ref l2), (3, .ref l3)] [] := by
  unfold f_X5_init_83 at hf
  refine z_aload_n 0 dX5_init_83 rfl rfl ?_
  refine z_iconst 0 0 dX5_init_84 (by decide) ?_
  refine z_pI (ci := 5) (k := 12) (C := RX5) (T := TX5) (N := 13) rfl inlX5 (by decide) mw_6_3 (fun _ _ _ _ h9 => h9) tyX5 tyX5_ok nmX5 rfl hf (Or.inl (by decide)) rfl rfl rfl dX5_init_85  (fun d18 hf => ?_)
  refine z_aload_n 0 dX5_init_88 rfl rfl ?_
  refine z_aload_n 1 dX5_init_89 rfl rfl ?_
  refine z_pP (ci := 5) (k := 0) (C := RX5) (T := TX5) (N := 13) rfl inlX5 (by decide) mw_6_4 (fun _ _ _ _ h9 => h9) tyX5 tyX5_ok nmX5 rfl rfl rfl hf (Or.inl (by decide)) rfl rfl rfl dX5_init_90 (fun s19 es19 hf => ?_)
  refine z_lv [(0, .ref l0), (2, .ref l2), (3, .ref l3)] [0, 2, 3] rfl ?_
  exact zb_X5_init_93 hE hf
set_option maxRecDepth 20000 in
theorem le_X5_init_80 {N : Nat} {r : AS}  {l0 : Nat} {l1 : Nat} {l2 : Nat} {l3 : Nat} {t0 : Nat} {t1 : Nat} {s : AS} (hf : f_X5_init_80 N l0 l1 l2 l3 t0 t1 s = some r) : Le s r := by
  unfold f_X5_init_80 at hf
  obtain ⟨s17, es17, hf⟩ := ob hf
  refine Le.of (t := (s.1, s.2)) rfl ((le_pP es17).tr ?_)
  exact Le.via (le_X5_init_83 hf) rfl
set_option maxRecDepth 20000 in
theorem zb_X5_init_80 {N : Nat} {r : AS} {E : EV} (hE : TG E none r)   {l0 : Nat} {l1 : Nat} {l2 : Nat} {l3 : Nat} {t0 : Nat} {t1 : Nat} {s : AS} (hf : f_X5_init_80 N l0 l1 l2 l3 t0 t1 s = some r) : Z E yX5_init cX5_init 4 none 2 s 80 [(0, .ref l0), (1, .ref l1), (2, .ref l2), (3, .ref l3)] [.ref t1, .ref t0] := by
  unfold f_X5_init_80 at hf
  refine z_pP (ci := 5) (k := 11) (C := RX5) (T := TX5) (N := 13) rfl inlX5 (by decide) mw_6_2 (fun _ _ _ _ h9 => h9) tyX5 tyX5_ok nmX5 rfl rfl rfl hf (Or.inl (by decide)) rfl rfl rfl dX5_init_80 (fun s17 es17 hf => ?_)
  exact zb_X5_init_83 hE hf
set_option maxRecDepth 20000 in
theorem le_X5_init_75 {N : Nat} {r : AS}  {l0 : Nat} {l1 : Nat} {l2 : Nat} {l3 : Nat} {s : AS} (hf : f_X5_init_75 N l0 l1 l2 l3 s = some r) : Le s r := by
  unfold f_X5_init_75 at hf
  obtain ⟨s16, es16, hf⟩ := ob hf
  refine Le.of (t := (s.1, s.2)) rfl ((le_nArr es16).tr ?_)
  exact Le.via (le_X5_init_80 hf) rfl
set_option maxRecDepth 20000 in
theorem zb_X5_init_75 {N : Nat} {r : AS} {E : EV} (hE : TG E none r)   {l0 : Nat} {l1 : Nat} {l2 : Nat} {l3 : Nat} {s : AS} (hf : f_X5_init_75 N l0 l1 l2 l3 s = some r) : Z E yX5_init cX5_init 4 none 2 s 75 [(0, .ref l0), (1, .ref l1), (2, .ref l2), (3, .ref l3)] [] := by
  unfold f_X5_init_75 at hf
  refine z_aload_n 0 dX5_init_75 rfl rfl ?_
  refine z_bipush 60 60 dX5_init_76 (by decide) ?_
  refine z_na1 hf (fun _ hf => tg_le hE (le_X5_init_80 hf)) mw_3_20 dX5_init_78 (fun s16 hf => ?_)
  exact zb_X5_init_80 hE hf
set_option maxRecDepth 20000 in
theorem le_X5_init_72 {N : Nat} {r : AS}  {l0 : Nat} {l1 : Nat} {l2 : Nat} {l3 : Nat} {t0 : Nat} {t1 : Nat} {s : AS} (hf : f_X5_init_72 N l0 l1 l2 l3 t0 t1 s = some r) : Le s r := by
  unfold f_X5_init_72 at hf
  obtain ⟨s15, es15, hf⟩ := ob hf
  refine Le.of (t := (s.1, s.2)) rfl ((le_pP es15).tr ?_)
  exact Le.via (le_X5_init_75 hf) rfl
set_option maxRecDepth 20000 in
theorem zb_X5_init_72 {N : Nat} {r : AS} {E : EV} (hE : TG E none r)   {l0 : Nat} {l1 : Nat} {l2 : Nat} {l3 : Nat} {t0 : Nat} {t1 : Nat} {s : AS} (hf : f_X5_init_72 N l0 l1 l2 l3 t0 t1 s = some r) : Z E yX5_init cX5_init 4 none 2 s 72 [(0, .ref l0), (1, .ref l1), (2, .ref l2), (3, .ref l3)] [.ref t1, .ref t0] := by
  unfold f_X5_init_72 at hf
  refine z_pP (ci := 5) (k := 10) (C := RX5) (T := TX5) (N := 13) rfl inlX5 (by decide) mw_6_1 (fun _ _ _ _ h9 => h9) tyX5 tyX5_ok nmX5 rfl rfl rfl hf (Or.inl (by decide)) rfl rfl rfl dX5_init_72 (fun s15 es15 hf => ?_)
  exact zb_X5_init_75 hE hf
set_option maxRecDepth 20000 in
theorem le_X5_init_66 {N : Nat} {r : AS}  {l0 : Nat} {l1 : Nat} {l2 : Nat} {l3 : Nat} {s : AS} (hf : f_X5_init_66 N l0 l1 l2 l3 s = some r) : Le s r := by
  unfold f_X5_init_66 at hf
  obtain ⟨s14, es14, hf⟩ := ob hf
  refine Le.of (t := (s.1, s.2)) rfl ((le_nArr es14).tr ?_)
  exact Le.via (le_X5_init_72 hf) rfl
set_option maxRecDepth 20000 in
theorem zb_X5_init_66 {N : Nat} {r : AS} {E : EV} (hE : TG E none r)   {l0 : Nat} {l1 : Nat} {l2 : Nat} {l3 : Nat} {s : AS} (hf : f_X5_init_66 N l0 l1 l2 l3 s = some r) : Z E yX5_init cX5_init 4 none 2 s 66 [(0, .ref l0), (1, .ref l1), (2, .ref l2), (3, .ref l3)] [] := by
  unfold f_X5_init_66 at hf
  refine z_aload_n 0 dX5_init_66 rfl rfl ?_
  refine z_sipush 150 150 dX5_init_67 (by decide) ?_
  refine z_na0 hf (fun _ hf => tg_le hE (le_X5_init_72 hf)) mw_2_13 dX5_init_70 (fun s14 hf => ?_)
  exact zb_X5_init_72 hE hf
set_option maxRecDepth 20000 in
theorem le_X5_init_63 {N : Nat} {r : AS}  {l0 : Nat} {l1 : Nat} {l2 : Nat} {l3 : Nat} {t0 : Nat} {t1 : Nat} {s : AS} (hf : f_X5_init_63 N l0 l1 l2 l3 t0 t1 s = some r) : Le s r := by
  unfold f_X5_init_63 at hf
  obtain ⟨s13, es13, hf⟩ := ob hf
  refine Le.of (t := (s.1, s.2)) rfl ((le_pP es13).tr ?_)
  exact Le.via (le_X5_init_66 hf) rfl
set_option maxRecDepth 20000 in
theorem zb_X5_init_63 {N : Nat} {r : AS} {E : EV} (hE : TG E none r)   {l0 : Nat} {l1 : Nat} {l2 : Nat} {l3 : Nat} {t0 : Nat} {t1 : Nat} {s : AS} (hf : f_X5_init_63 N l0 l1 l2 l3 t0 t1 s = some r) : Z E yX5_init cX5_init 4 none 2 s 63 [(0, .ref l0), (1, .ref l1), (2, .ref l2), (3, .ref l3)] [.ref t1, .ref t0] := by
  unfold f_X5_init_63 at hf
  refine z_pP (ci := 5) (k := 9) (C := RX5) (T := TX5) (N := 13) rfl inlX5 (by decide) mw_6_0 (fun _ _ _ _ h9 => h9) tyX5 tyX5_ok nmX5 rfl rfl rfl hf (Or.inl (by decide)) rfl rfl rfl dX5_init_63 (fun s13 es13 hf => ?_)
  exact zb_X5_init_66 hE hf
set_option maxRecDepth 20000 in
theorem le_X5_init_52 {N : Nat} {r : AS}  {l0 : Nat} {l1 : Nat} {l2 : Nat} {l3 : Nat} {s : AS} (hf : f_X5_init_52 N l0 l1 l2 l3 s = some r) : Le s r := by
  unfold f_X5_init_52 at hf
  obtain ⟨d11, -, hf⟩ := ob hf
  obtain ⟨s12, es12, hf⟩ := ob hf
  refine Le.of (t := (s.1, d11)) rfl ((le_nArr es12).tr ?_)
  exact Le.via (le_X5_init_63 hf) rfl
set_option maxRecDepth 20000 in
theorem zb_X5_init_52 {N : Nat} {r : AS} {E : EV} (hE : TG E none r)   {l0 : Nat} {l1 : Nat} {l2 : Nat} {l3 : Nat} {s : AS} (hf : f_X5_init_52 N l0 l1 l2 l3 s = some r) : Z E yX5_init cX5_init 4 none 2 s 52 [(0, .ref l0), (1, .ref l1), (2, .ref l2), (3, .ref l3)] [] := by
  unfold f_X5_init_52 at hf
  refine z_aload_n 0 dX5_init_52 rfl rfl ?_
  refine z_iconst 0 0 dX5_init_53 (by decide) ?_
  refine z_pI (ci := 5) (k := 8) (C := RX5) (T := TX5) (N := 13) rfl inlX5 (by decide) mw_5_23 (fun _ _ _ _ h9 => h9) tyX5 tyX5_ok nmX5 rfl hf (Or.inl (by decide)) rfl rfl rfl dX5_init_54  (fun d11 hf => ?_)
  refine z_aload_n 0 dX5_init_57 rfl rfl ?_
  refine z_sipush 150 150 dX5_init_58 (by decide) ?_
  refine z_na0 hf (fun _ hf => tg_le hE (le_X5_init_63 hf)) mw_2_13 dX5_init_61 (fun s12 hf => ?_)
  exact zb_X5_init_63 hE hf
set_option maxRecDepth 20000 in
theorem le_X5_init_49 {N : Nat} {r : AS}  {l0 : Nat} {l1 : Nat} {l2 : Nat} {l3 : Nat} {t0 : Nat} {t1 : Nat} {s : AS} (hf : f_X5_init_49 N l0 l1 l2 l3 t0 t1 s = some r) : Le s r := by
  unfold f_X5_init_49 at hf
  obtain ⟨s10, es10, hf⟩ := ob hf
  refine Le.of (t := (s.1, s.2)) rfl ((le_pP es10).tr ?_)
  exact Le.via (le_X5_init_52 hf) rfl
set_option maxRecDepth 20000 in
theorem zb_X5_init_49 {N : Nat} {r : AS} {E : EV} (hE : TG E none r)   {l0 : Nat} {l1 : Nat} {l2 : Nat} {l3 : Nat} {t0 : Nat} {t1 : Nat} {s : AS} (hf : f_X5_init_49 N l0 l1 l2 l3 t0 t1 s = some r) : Z E yX5_init cX5_init 4 none 2 s 49 [(0, .ref l0), (1, .ref l1), (2, .ref l2), (3, .ref l3)] [.ref t1, .ref t0] := by
  unfold f_X5_init_49 at hf
  refine z_pP (ci := 5) (k := 7) (C := RX5) (T := TX5) (N := 13) rfl inlX5 (by decide) mw_5_22 (fun _ _ _ _ h9 => h9) tyX5 tyX5_ok nmX5 rfl rfl rfl hf (Or.inl (by decide)) rfl rfl rfl dX5_init_49 (fun s10 es10 hf => ?_)
  exact zb_X5_init_52 hE hf
set_option maxRecDepth 20000 in
theorem le_X5_init_43 {N : Nat} {r : AS}  {l0 : Nat} {l1 : Nat} {l2 : Nat} {l3 : Nat} {s : AS} (hf : f_X5_init_43 N l0 l1 l2 l3 s = some r) : Le s r := by
  unfold f_X5_init_43 at hf
  obtain ⟨s9, es9, hf⟩ := ob hf
  refine Le.of (t := (s.1, s.2)) rfl ((le_nArr es9).tr ?_)
  exact Le.via (le_X5_init_49 hf) rfl
set_option maxRecDepth 20000 in
theorem zb_X5_init_43 {N : Nat} {r : AS} {E : EV} (hE : TG E none r)   {l0 : Nat} {l1 : Nat} {l2 : Nat} {l3 : Nat} {s : AS} (hf : f_X5_init_43 N l0 l1 l2 l3 s = some r) : Z E yX5_init cX5_init 4 none 2 s 43 [(0, .ref l0), (1, .ref l1), (2, .ref l2), (3, .ref l3)] [] := by
  unfold f_X5_init_43 at hf
  refine z_aload_n 0 dX5_init_43 rfl rfl ?_
  refine z_sipush 150 150 dX5_init_44 (by decide) ?_
  refine z_na0 hf (fun _ hf => tg_le hE (le_X5_init_49 hf)) mw_2_13 dX5_init_47 (fun s9 hf => ?_)
  exact zb_X5_init_49 hE hf
set_option maxRecDepth 20000 in
theorem le_X5_init_40 {N : Nat} {r : AS}  {l0 : Nat} {l1 : Nat} {l2 : Nat} {l3 : Nat} {t0 : Nat} {t1 : Nat} {s : AS} (hf : f_X5_init_40 N l0 l1 l2 l3 t0 t1 s = some r) : Le s r := by
  unfold f_X5_init_40 at hf
  obtain ⟨s8, es8, hf⟩ := ob hf
  refine Le.of (t := (s.1, s.2)) rfl ((le_pP es8).tr ?_)
  exact Le.via (le_X5_init_43 hf) rfl
set_option maxRecDepth 20000 in
theorem zb_X5_init_40 {N : Nat} {r : AS} {E : EV} (hE : TG E none r)   {l0 : Nat} {l1 : Nat} {l2 : Nat} {l3 : Nat} {t0 : Nat} {t1 : Nat} {s : AS} (hf : f_X5_init_40 N l0 l1 l2 l3 t0 t1 s = some r) : Z E yX5_init cX5_init 4 none 2 s 40 [(0, .ref l0), (1, .ref l1), (2, .ref l2), (3, .ref l3)] [.ref t1, .ref t0] := by
  unfold f_X5_init_40 at hf
  refine z_pP (ci := 5) (k := 6) (C := RX5) (T := TX5) (N := 13) rfl inlX5 (by decide) mw_5_21 (fun _ _ _ _ h9 => h9) tyX5 tyX5_ok nmX5 rfl rfl rfl hf (Or.inl (by decide)) rfl rfl rfl dX5_init_40 (fun s8 es8 hf => ?_)
  exact zb_X5_init_43 hE hf
set_option maxRecDepth 20000 in
theorem le_X5_init_34 {N : Nat} {r : AS}  {l0 : Nat} {l1 : Nat} {l2 : Nat} {l3 : Nat} {s : AS} (hf : f_X5_init_34 N l0 l1 l2 l3 s = some r) : Le s r := by
  unfold f_X5_init_34 at hf
  obtain ⟨s7, es7, hf⟩ := ob hf
  refine Le.of (t := (s.1, s.2)) rfl ((le_nArr es7).tr ?_)
  exact Le.via (le_X5_init_40 hf) rfl
set_option maxRecDepth 20000 in
theorem zb_X5_init_34 {N : Nat} {r : AS} {E : EV} (hE : TG E none r)   {l0 : Nat} {l1 : Nat} {l2 : Nat} {l3 : Nat} {s : AS} (hf : f_X5_init_34 N l0 l1 l2 l3 s = some r) : Z E yX5_init cX5_init 4 none 2 s 34 [(0, .ref l0), (1, .ref l1), (2, .ref l2), (3, .ref l3)] [] := by
  unfold f_X5_init_34 at hf
  refine z_aload_n 0 dX5_init_34 rfl rfl ?_
  refine z_sipush 150 150 dX5_init_35 (by decide) ?_
  refine z_na0 hf (fun _ hf => tg_le hE (le_X5_init_40 hf)) mw_2_13 dX5_init_38 (fun s7 hf => ?_)
  exact zb_X5_init_40 hE hf
set_option maxRecDepth 20000 in
theorem le_X5_init_31 {N : Nat} {r : AS}  {l0 : Nat} {l1 : Nat} {l2 : Nat} {l3 : Nat} {t0 : Nat} {t1 : Nat} {s : AS} (hf : f_X5_init_31 N l0 l1 l2 l3 t0 t1 s = some r) : Le s r := by
  unfold f_X5_init_31 at hf
  obtain ⟨s6, es6, hf⟩ := ob hf
  refine Le.of (t := (s.1, s.2)) rfl ((le_pP es6).tr ?_)
  exact Le.via (le_X5_init_34 hf) rfl
set_option maxRecDepth 20000 in
theorem zb_X5_init_31 {N : Nat} {r : AS} {E : EV} (hE : TG E none r)   {l0 : Nat} {l1 : Nat} {l2 : Nat} {l3 : Nat} {t0 : Nat} {t1 : Nat} {s : AS} (hf : f_X5_init_31 N l0 l1 l2 l3 t0 t1 s = some r) : Z E yX5_init cX5_init 4 none 2 s 31 [(0, .ref l0), (1, .ref l1), (2, .ref l2), (3, .ref l3)] [.ref t1, .ref t0] := by
  unfold f_X5_init_31 at hf
  refine z_pP (ci := 5) (k := 5) (C := RX5) (T := TX5) (N := 13) rfl inlX5 (by decide) mw_5_20 (fun _ _ _ _ h9 => h9) tyX5 tyX5_ok nmX5 rfl rfl rfl hf (Or.inl (by decide)) rfl rfl rfl dX5_init_31 (fun s6 es6 hf => ?_)
  exact zb_X5_init_34 hE hf
set_option maxRecDepth 20000 in
theorem le_X5_init_26 {N : Nat} {r : AS}  {l0 : Nat} {l1 : Nat} {l2 : Nat} {l3 : Nat} {s : AS} (hf : f_X5_init_26 N l0 l1 l2 l3 s = some r) : Le s r := by
  unfold f_X5_init_26 at hf
  obtain ⟨s5, es5, hf⟩ := ob hf
  refine Le.of (t := (s.1, s.2)) rfl ((le_nArr es5).tr ?_)
  exact Le.via (le_X5_init_31 hf) rfl
set_option maxRecDepth 20000 in
theorem zb_X5_init_26 {N : Nat} {r : AS} {E : EV} (hE : TG E none r)   {l0 : Nat} {l1 : Nat} {l2 : Nat} {l3 : Nat} {s : AS} (hf : f_X5_init_26 N l0 l1 l2 l3 s = some r) : Z E yX5_init cX5_init 4 none 2 s 26 [(0, .ref l0), (1, .ref l1), (2, .ref l2), (3, .ref l3)] [] := by
  unfold f_X5_init_26 at hf
  refine z_aload_n 0 dX5_init_26 rfl rfl ?_
  refine z_bipush 60 60 dX5_init_27 (by decide) ?_
  refine z_na0 hf (fun _ hf => tg_le hE (le_X5_init_31 hf)) mw_2_13 dX5_init_29 (fun s5 hf => ?_)
  exact zb_X5_init_31 hE hf
set_option maxRecDepth 20000 in
theorem le_X5_init_23 {N : Nat} {r : AS}  {l0 : Nat} {l1 : Nat} {l2 : Nat} {l3 : Nat} {t0 : Nat} {t1 : Nat} {s : AS} (hf : f_X5_init_23 N l0 l1 l2 l3 t0 t1 s = some r) : Le s r := by
  unfold f_X5_init_23 at hf
  obtain ⟨s4, es4, hf⟩ := ob hf
  refine Le.of (t := (s.1, s.2)) rfl ((le_pP es4).tr ?_)
  exact Le.via (le_X5_init_26 hf) rfl
set_option maxRecDepth 20000 in
theorem zb_X5_init_23 {N : Nat} {r : AS} {E : EV} (hE : TG E none r)   {l0 : Nat} {l1 : Nat} {l2 : Nat} {l3 : Nat} {t0 : Nat} {t1 : Nat} {s : AS} (hf : f_X5_init_23 N l0 l1 l2 l3 t0 t1 s = some r) : Z E yX5_init cX5_init 4 none 2 s 23 [(0, .ref l0), (1, .ref l1), (2, .ref l2), (3, .ref l3)] [.ref t1, .ref t0] := by
  unfold f_X5_init_23 at hf
  refine z_pP (ci := 5) (k := 4) (C := RX5) (T := TX5) (N := 13) rfl inlX5 (by decide) mw_5_19 (fun _ _ _ _ h9 => h9) tyX5 tyX5_ok nmX5 rfl rfl rfl hf (Or.inl (by decide)) rfl rfl rfl dX5_init_23 (fun s4 es4 hf => ?_)
  exact zb_X5_init_26 hE hf
set_option maxRecDepth 20000 in
theorem le_X5_init_18 {N : Nat} {r : AS}  {l0 : Nat} {l1 : Nat} {l2 : Nat} {l3 : Nat} {s : AS} (hf : f_X5_init_18 N l0 l1 l2 l3 s = some r) : Le s r := by
  unfold f_X5_init_18 at hf
  obtain ⟨s3, es3, hf⟩ := ob hf
  refine Le.of (t := (s.1, s.2)) rfl ((le_nArr es3).tr ?_)
  exact Le.via (le_X5_init_23 hf) rfl
set_option maxRecDepth 20000 in
theorem zb_X5_init_18 {N : Nat} {r : AS} {E : EV} (hE : TG E none r)   {l0 : Nat} {l1 : Nat} {l2 : Nat} {l3 : Nat} {s : AS} (hf : f_X5_init_18 N l0 l1 l2 l3 s = some r) : Z E yX5_init cX5_init 4 none 2 s 18 [(0, .ref l0), (1, .ref l1), (2, .ref l2), (3, .ref l3)] [] := by
  unfold f_X5_init_18 at hf
  refine z_aload_n 0 dX5_init_18 rfl rfl ?_
  refine z_bipush 7 7 dX5_init_19 (by decide) ?_
  refine z_na0 hf (fun _ hf => tg_le hE (le_X5_init_23 hf)) mw_2_13 dX5_init_21 (fun s3 hf => ?_)
  exact zb_X5_init_23 hE hf
set_option maxRecDepth 20000 in
theorem le_X5_init_15 {N : Nat} {r : AS}  {l0 : Nat} {l1 : Nat} {l2 : Nat} {l3 : Nat} {t0 : Nat} {t1 : Nat} {s : AS} (hf : f_X5_init_15 N l0 l1 l2 l3 t0 t1 s = some r) : Le s r := by
  unfold f_X5_init_15 at hf
  obtain ⟨s2, es2, hf⟩ := ob hf
  refine Le.of (t := (s.1, s.2)) rfl ((le_pP es2).tr ?_)
  exact Le.via (le_X5_init_18 hf) rfl
set_option maxRecDepth 20000 in
theorem zb_X5_init_15 {N : Nat} {r : AS} {E : EV} (hE : TG E none r)   {l0 : Nat} {l1 : Nat} {l2 : Nat} {l3 : Nat} {t0 : Nat} {t1 : Nat} {s : AS} (hf : f_X5_init_15 N l0 l1 l2 l3 t0 t1 s = some r) : Z E yX5_init cX5_init 4 none 2 s 15 [(0, .ref l0), (1, .ref l1), (2, .ref l2), (3, .ref l3)] [.ref t1, .ref t0] := by
  unfold f_X5_init_15 at hf
  refine z_pP (ci := 5) (k := 3) (C := RX5) (T := TX5) (N := 13) rfl inlX5 (by decide) mw_5_18 (fun _ _ _ _ h9 => h9) tyX5 tyX5_ok nmX5 rfl rfl rfl hf (Or.inl (by decide)) rfl rfl rfl dX5_init_15 (fun s2 es2 hf => ?_)
  exact zb_X5_init_18 hE hf
set_option maxRecDepth 20000 in
theorem le_X5_init_8 {N : Nat} {r : AS}  {l0 : Nat} {l1 : Nat} {l2 : Nat} {l3 : Nat} {t0 : Nat} {t1 : Nat} {s : AS} (hf : f_X5_init_8 N l0 l1 l2 l3 t0 t1 s = some r) : Le s r := by
  unfold f_X5_init_8 at hf
  obtain ⟨v1, ev1, hf⟩ := ob hf
  refine Le.of (t := (s.1, s.2)) rfl ((lm_X8_init ev1).tr ?_)
  exact Le.via (le_X5_init_15 hf) rfl
set_option maxRecDepth 20000 in
theorem zb_X5_init_8 {N : Nat} {r : AS} {E : EV} (hE : TG E none r)   {l0 : Nat} {l1 : Nat} {l2 : Nat} {l3 : Nat} {t0 : Nat} {t1 : Nat} {s : AS} (hf : f_X5_init_8 N l0 l1 l2 l3 t0 t1 s = some r) : Z E yX5_init cX5_init 4 none 2 s 8 [(0, .ref l0), (1, .ref l1), (2, .ref l2), (3, .ref l3)] [.ref t1, .ref t0] := by
  unfold f_X5_init_8 at hf
  refine z_dup dX5_init_8 rfl ?_
  refine z_iconst 4 4 dX5_init_9 (by decide) ?_
  refine z_bipush 16 16 dX5_init_10 (by decide) ?_
  obtain ⟨v1, ev1, hf⟩ := ob hf
  refine z_cI (As := [.int (4 : Int32), .int (16 : Int32)]) (rest := [.ref t1, .ref t0]) (zm_X8_init ev1).2 (Or.inr (tg_le hE (le_X5_init_15 hf))) mw_6_7 mw_3_23 mw_3_13 mw_4_0 rfl yk_X8_init (by decide) (by decide) rfl (Nat.le_of_ble_eq_true rfl) rfl dX5_init_12 ?_
  exact zb_X5_init_15 hE hf
set_option maxRecDepth 20000 in
theorem lm_X5_init {N : Nat} {s : AS} {l0 : Nat} {l1 : Nat} {l2 : Nat} {l3 : Nat} {r : AS} (hf : f_X5_init N l0 l1 l2 l3 s = some r) : Le s r := by
  unfold f_X5_init at hf
  refine ite_c hf (fun hf => ?_) (fun hf => ?_)
  · skip
    refine Le.of (t := (s.1, s.2)) rfl (le_nObj.tr (u := _) (t := nObj (s.1, s.2) 8) ?_)
    exact Le.via (le_X5_init_8 hf) rfl
  · cases hf
set_option maxRecDepth 20000 in
theorem zm_X5_init {N : Nat} {s : AS} {l0 : Nat} {l1 : Nat} {l2 : Nat} {l3 : Nat} {r : AS} (hf : f_X5_init N l0 l1 l2 l3 s = some r) : isO s.1 l0 5 ∧ ∀ (l : Launch) (G : GG), Mt l G yX5_init cX5_init 4 none 2 [.ref l0, .ref l1, .ref l2, .ref l3] s none r := by
  have hf0 := hf
  unfold f_X5_init at hf
  refine ite_d hf (fun hO hf => ?_) (fun _ hf => ?_)
  · refine ⟨hO, fun l G => mt_of (Or.inl (by decide)) (Nat.le_of_ble_eq_true rfl) (lm_X5_init hf0) (fun E hE => ?_)⟩
    show Z E yX5_init cX5_init 4 none 2 s 0 [(0, .ref l0), (1, .ref l1), (2, .ref l2), (3, .ref l3)] []
    refine z_aload_n 0 dX5_init_0 rfl rfl ?_
    refine z_objInit mw_5_16 mw_1_10 mw_1_11 (by decide) (Nat.le_of_ble_eq_true rfl) dX5_init_1 ?_
    refine z_aload_n 0 dX5_init_4 rfl rfl ?_
    refine z_newo (ci := 8) (C := RX8) (T := TX8) (N := 2) rfl inlX8 tyX8 tyX8_ok mw_5_17 mw_3_12 mw_3_13 rfl df_8 (tg_le hE (le_X5_init_8 hf)) dX5_init_5 ?_
    exact zb_X5_init_8 hE hf
  · cases hf
