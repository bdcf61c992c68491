set_option maxRecDepth 20000 in
theorem le_X11_pair_44 {N : Nat} {r : Int32 × AS}  {l0 : Nat} {s : AS} (hf : f_X11_pair_44 N l0 s = some r) : Le s r.2 := by
  unfold f_X11_pair_44 at hf
  obtain ⟨v13, -, hf⟩ := ob hf
  cases hf
  exact Le.rf
set_option maxRecDepth 20000 in
theorem zb_X11_pair_44 {N : Nat} {r : Int32 × AS} {E : EV} (hE : TG E (some (.int r.1)) r.2)  {l0 : Nat} {s : AS} (hf : f_X11_pair_44 N l0 s = some r) : Z E yX11_pair cX11_pair 5 (some .int) 6 s 44 [(0, .ref l0)] [] := by
  unfold f_X11_pair_44 at hf
  refine z_aload_n 0 dX11_pair_44 rfl rfl ?_
  refine z_bipush (-2) (-2) dX11_pair_45 (by decide) ?_
  obtain ⟨v13, ev13, hf⟩ := ob hf
  refine z_cVi (ci := 11) (T := TX11) (N := 14) (As := [.int (-2 : Int32)]) (rest := []) (zm_X11_refuse ev13).2 (zm_X11_refuse ev13).1 (by decide) rfl (Or.inl rfl) mw_7_22 mw_7_23 mw_8_0 mw_1_2 mw_8_1 yk_X11_refuse (by decide) (by decide) rfl (Nat.le_of_ble_eq_true rfl) rfl dX11_pair_47 ?_
  cases hf
  exact z_ireturn hE rfl dX11_pair_50
set_option maxRecDepth 20000 in
theorem le_X11_pair_154 {N : Nat} {r : Int32 × AS}  {t0 : Nat} {t1 : Int32} {s : AS} (hf : f_X11_pair_154 N t0 t1 s = some r) : Le s r.2 := by
  unfold f_X11_pair_154 at hf
  obtain ⟨v27, -, hf⟩ := ob hf
  cases hf
  exact Le.rf
set_option maxRecDepth 20000 in
theorem zb_X11_pair_154 {N : Nat} {r : Int32 × AS} {E : EV} (hE : TG E (some (.int r.1)) r.2)  {t0 : Nat} {t1 : Int32} {s : AS} (hf : f_X11_pair_154 N t0 t1 s = some r) : Z E yX11_pair cX11_pair 5 (some .int) 6 s 154 [] [.int t1, .ref t0] := by
  unfold f_X11_pair_154 at hf
  obtain ⟨v27, ev27, hf⟩ := ob hf
  refine z_cVi (ci := 11) (T := TX11) (N := 14) (As := [.int t1]) (rest := []) (zm_X11_answer ev27).2 (zm_X11_answer ev27).1 (by decide) rfl (Or.inl rfl) mw_11_2 mw_11_3 mw_11_4 mw_1_2 mw_11_5 yk_X11_answer (by decide) (by decide) rfl (Nat.le_of_ble_eq_true rfl) rfl dX11_pair_154 ?_
  cases hf
  exact z_ireturn hE rfl dX11_pair_157
set_option maxRecDepth 20000 in
theorem le_X11_pair_149 {N : Nat} {r : Int32 × AS}  {l3 : Int32} {t0 : Nat} {t1 : Nat} {t2 : Nat} {s : AS} (hf : f_X11_pair_149 N l3 t0 t1 t2 s = some r) : Le s r.2 := by
  unfold f_X11_pair_149 at hf
  obtain ⟨v26, ev26, hf⟩ := ob hf
  refine Le.of (t := (s.1, s.2)) rfl ((lm_X11_enlist ev26).tr ?_)
  exact Le.via (le_X11_pair_154 hf) rfl
set_option maxRecDepth 20000 in
theorem zb_X11_pair_149 {N : Nat} {r : Int32 × AS} {E : EV} (hE : TG E (some (.int r.1)) r.2)  {l3 : Int32} {t0 : Nat} {t1 : Nat} {t2 : Nat} {s : AS} (hf : f_X11_pair_149 N l3 t0 t1 t2 s = some r) : Z E yX11_pair cX11_pair 5 (some .int) 6 s 149 [(3, .int l3)] [.ref t2, .ref t1, .ref t0] := by
  unfold f_X11_pair_149 at hf
  refine z_iconst 4 4 dX11_pair_149 (by decide) ?_
  refine z_iload_n 0 dX11_pair_150 rfl rfl ?_
  obtain ⟨v26, ev26, hf⟩ := ob hf
  refine z_cVi (ci := 11) (T := TX11) (N := 14) (As := [.ref t2, .int (4 : Int32), .int l3]) (rest := [.ref t0]) (zm_X11_enlist ev26).2 (zm_X11_enlist ev26).1 (by decide) rfl (Or.inr (tg_le hE (le_X11_pair_154 hf))) mw_30_18 mw_30_19 mw_30_20 mw_1_2 mw_30_21 yk_X11_enlist (by decide) (by decide) rfl (Nat.le_of_ble_eq_true rfl) rfl dX11_pair_151 ?_
  refine z_lv [] [] rfl ?_
  exact zb_X11_pair_154 hE hf
set_option maxRecDepth 20000 in
theorem le_X11_pair_129 {N : Nat} {r : Int32 × AS}  {l0 : Nat} {l1 : Int32} {l2 : Int32} {l3 : Int32} {t0 : Nat} {t1 : Nat} {t2 : Nat} {s : AS} (hf : f_X11_pair_129 N l0 l1 l2 l3 t0 t1 t2 s = some r) : Le s r.2 := by
  unfold f_X11_pair_129 at hf
  obtain ⟨v20, -, hf⟩ := ob hf
  obtain ⟨v21, -, hf⟩ := ob hf
  obtain ⟨v22, -, hf⟩ := ob hf
  obtain ⟨v23, -, hf⟩ := ob hf
  obtain ⟨v24, -, hf⟩ := ob hf
  obtain ⟨v25, ev25, hf⟩ := ob hf
  refine Le.of (t := (s.1, s.2)) rfl ((lm_X3_init ev25).tr ?_)
  exact Le.via (le_X11_pair_149 hf) rfl
set_option maxRecDepth 20000 in
theorem zb_X11_pair_129 {N : Nat} {r : Int32 × AS} {E : EV} (hE : TG E (some (.int r.1)) r.2)  {l0 : Nat} {l1 : Int32} {l2 : Int32} {l3 : Int32} {t0 : Nat} {t1 : Nat} {t2 : Nat} {s : AS} (hf : f_X11_pair_129 N l0 l1 l2 l3 t0 t1 t2 s = some r) : Z E yX11_pair cX11_pair 5 (some .int) 6 s 129 [(0, .ref l0), (1, .int l1), (2, .int l2), (3, .int l3)] [.ref t2, .ref t1, .ref t0] := by
  unfold f_X11_pair_129 at hf
  refine z_dup dX11_pair_129 rfl ?_
  refine z_aload_n 0 dX11_pair_130 rfl rfl ?_
  refine z_gP (ci := 11) (k := 0) (C := RX11) (T := TX11) (N := 14) rfl inlX11 (by decide) mw_1_15 (fun _ _ _ _ h9 => h9) hf (by decide) rfl dX11_pair_131  (fun v20 hf => ?_)
  refine z_aload_n 0 dX11_pair_134 rfl rfl ?_
  refine z_gP (ci := 11) (k := 6) (C := RX11) (T := TX11) (N := 14) rfl inlX11 (by decide) mw_2_10 (fun _ _ _ _ h9 => h9) hf (by decide) rfl dX11_pair_135  (fun v21 hf => ?_)
  refine z_iload_n 1 dX11_pair_138 rfl rfl ?_
  refine z_aP hf dX11_pair_139  (fun v22 hf => ?_)
  refine z_aload_n 0 dX11_pair_140 rfl rfl ?_
  refine z_gP (ci := 11) (k := 6) (C := RX11) (T := TX11) (N := 14) rfl inlX11 (by decide) mw_2_10 (fun _ _ _ _ h9 => h9) hf (by decide) rfl dX11_pair_141  (fun v23 hf => ?_)
  refine z_iload_n 2 dX11_pair_144 rfl rfl ?_
  refine z_aP hf dX11_pair_145  (fun v24 hf => ?_)
  obtain ⟨v25, ev25, hf⟩ := ob hf
  refine z_cI (As := [.ref v20, .ref v22, .ref v24]) (rest := [.ref t2, .ref t1, .ref t0]) (zm_X3_init ev25).2 (Or.inr (tg_le hE (le_X11_pair_149 hf))) mw_32_10 mw_32_11 mw_31_16 mw_32_12 rfl yk_X3_init (by decide) (by decide) rfl (Nat.le_of_ble_eq_true rfl) rfl dX11_pair_146 ?_
  refine z_lv [(3, .int l3)] [3] rfl ?_
  exact zb_X11_pair_149 hE hf
set_option maxRecDepth 20000 in
theorem le_X11_pair_108 {N : Nat} {r : Int32 × AS}  {l0 : Nat} {l1 : Int32} {l2 : Int32} {l3 : Int32} {s : AS} (hf : f_X11_pair_108 N l0 l1 l2 l3 s = some r) : Le s r.2 := by
  unfold f_X11_pair_108 at hf
  obtain ⟨v16, -, hf⟩ := ob hf
  obtain ⟨v17, -, hf⟩ := ob hf
  obtain ⟨v18, -, hf⟩ := ob hf
  obtain ⟨v19, -, hf⟩ := ob hf
  refine Le.of (t := (s.1, v19)) rfl (le_nObj.tr (u := _) (t := nObj (s.1, v19) 3) ?_)
  exact Le.via (le_X11_pair_129 hf) rfl
set_option maxRecDepth 20000 in
theorem zb_X11_pair_108 {N : Nat} {r : Int32 × AS} {E : EV} (hE : TG E (some (.int r.1)) r.2)  {l0 : Nat} {l1 : Int32} {l2 : Int32} {l3 : Int32} {s : AS} (hf : f_X11_pair_108 N l0 l1 l2 l3 s = some r) : Z E yX11_pair cX11_pair 5 (some .int) 6 s 108 [(0, .ref l0), (1, .int l1), (2, .int l2), (3, .int l3)] [] := by
  unfold f_X11_pair_108 at hf
  refine z_aload_n 0 dX11_pair_108 rfl rfl ?_
  refine z_gP (ci := 11) (k := 1) (C := RX11) (T := TX11) (N := 14) rfl inlX11 (by decide) mw_1_19 (fun _ _ _ _ h9 => h9) hf (by decide) rfl dX11_pair_109  (fun v16 hf => ?_)
  refine z_iload_n 1 dX11_pair_112 rfl rfl ?_
  obtain ⟨v17, ev17, hf⟩ := ob hf
  refine z_cVv (ci := 1) (T := TX1) (N := 8) (As := [.int l1]) (rest := []) (zm_X1_sendOut ev17).2 (zm_X1_sendOut ev17).1 (by decide) rfl (Or.inl rfl) mw_32_2 mw_32_3 mw_32_4 mw_1_18 mw_32_5 yk_X1_sendOut (by decide) (by decide) rfl (Nat.le_of_ble_eq_true rfl) rfl dX11_pair_113 ?_
  refine z_aload_n 0 dX11_pair_116 rfl rfl ?_
  refine z_gP (ci := 11) (k := 1) (C := RX11) (T := TX11) (N := 14) rfl inlX11 (by decide) mw_1_19 (fun _ _ _ _ h9 => h9) hf (by decide) rfl dX11_pair_117  (fun v18 hf => ?_)
  refine z_iload_n 2 dX11_pair_120 rfl rfl ?_
  obtain ⟨v19, ev19, hf⟩ := ob hf
  refine z_cVv (ci := 1) (T := TX1) (N := 8) (As := [.int l2]) (rest := []) (zm_X1_sendOut ev19).2 (zm_X1_sendOut ev19).1 (by decide) rfl (Or.inl rfl) mw_32_2 mw_32_3 mw_32_4 mw_1_18 mw_32_5 yk_X1_sendOut (by decide) (by decide) rfl (Nat.le_of_ble_eq_true rfl) rfl dX11_pair_121 ?_
  refine z_aload_n 0 dX11_pair_124 rfl rfl ?_
  refine z_aload_n 0 dX11_pair_125 rfl rfl ?_
  refine z_newo (ci := 3) (C := RX3) (T := TX3) (N := 5) rfl inlX3 tyX3 tyX3_ok mw_31_14 mw_31_15 mw_31_16 rfl df_3 (tg_le hE (le_X11_pair_129 hf)) dX11_pair_126 ?_
  exact zb_X11_pair_129 hE hf
set_option maxRecDepth 20000 in
theorem le_X11_pair_92 {N : Nat} {r : Int32 × AS}  {l0 : Nat} {l1 : Int32} {l2 : Int32} {l3 : Int32} {l4 : Int32} {s : AS} (hf : f_X11_pair_92 N l0 l1 l2 l3 l4 s = some r) : Le s r.2 := by
  unfold f_X11_pair_92 at hf
  split at hf
  · obtain ⟨v14, ev14, hf⟩ := ob hf
    refine Le.of (t := (s.1, s.2)) rfl ((lm_X11_change ev14).tr ?_)
    exact Le.via (le_X11_pair_108 hf) rfl
  · obtain ⟨v15, -, hf⟩ := ob hf
    cases hf
    exact Le.rf
set_option maxRecDepth 20000 in
theorem zb_X11_pair_92 {N : Nat} {r : Int32 × AS} {E : EV} (hE : TG E (some (.int r.1)) r.2)  {l0 : Nat} {l1 : Int32} {l2 : Int32} {l3 : Int32} {l4 : Int32} {s : AS} (hf : f_X11_pair_92 N l0 l1 l2 l3 l4 s = some r) : Z E yX11_pair cX11_pair 5 (some .int) 6 s 92 [(0, .ref l0), (1, .int l1), (2, .int l2), (3, .int l3), (4, .int l4)] [] := by
  unfold f_X11_pair_92 at hf
  refine z_iload 4 dX11_pair_92 rfl ?_
  refine z_if_eq 104 hf dX11_pair_94 (by decide) (fun hf => ?_) (fun hf => ?_)
  · refine z_aload_n 0 dX11_pair_104 rfl rfl ?_
    obtain ⟨v14, ev14, hf⟩ := ob hf
    refine z_cVv (ci := 11) (T := TX11) (N := 14) (As := []) (rest := []) (zm_X11_change ev14).2 (zm_X11_change ev14).1 (by decide) rfl (Or.inr (tg_le hE (le_X11_pair_108 hf))) mw_8_7 mw_8_8 mw_8_9 mw_1_2 mw_8_10 yk_X11_change (by decide) (by decide) rfl (Nat.le_of_ble_eq_true rfl) rfl dX11_pair_105 ?_
    refine z_lv [(0, .ref l0), (1, .int l1), (2, .int l2), (3, .int l3)] [0, 1, 2, 3] rfl ?_
    exact zb_X11_pair_108 hE hf
  · refine z_aload_n 0 dX11_pair_97 rfl rfl ?_
    refine z_iload 4 dX11_pair_98 rfl ?_
    obtain ⟨v15, ev15, hf⟩ := ob hf
    refine z_cVi (ci := 11) (T := TX11) (N := 14) (As := [.int l4]) (rest := []) (zm_X11_refuse ev15).2 (zm_X11_refuse ev15).1 (by decide) rfl (Or.inl rfl) mw_7_22 mw_7_23 mw_8_0 mw_1_2 mw_8_1 yk_X11_refuse (by decide) (by decide) rfl (Nat.le_of_ble_eq_true rfl) rfl dX11_pair_100 ?_
    cases hf
    exact z_ireturn hE rfl dX11_pair_103
set_option maxRecDepth 20000 in
theorem lm_X11_pair {N : Nat} {s : AS} {l0 : Nat} {l1 : Int32} {l2 : Int32} {l3 : Int32} {r : Int32 × AS} (hf : f_X11_pair N l0 l1 l2 l3 s = some r) : Le s r.2 := by
  unfold f_X11_pair at hf
  split at hf
  · skip
    obtain ⟨v1, -, hf⟩ := ob hf
    obtain ⟨v2, -, hf⟩ := ob hf
    obtain ⟨v3, -, hf⟩ := ob hf
    split at hf
    · exact Le.via (le_X11_pair_44 hf) rfl
    · obtain ⟨v4, -, hf⟩ := ob hf
      obtain ⟨v5, -, hf⟩ := ob hf
      obtain ⟨v6, -, hf⟩ := ob hf
      split at hf
      · exact Le.via (le_X11_pair_44 hf) rfl
      · split at hf
        · exact Le.via (le_X11_pair_44 hf) rfl
        · split at hf
          · exact Le.via (le_X11_pair_44 hf) rfl
          · split at hf
            · obtain ⟨v7, -, hf⟩ := ob hf
              obtain ⟨v8, -, hf⟩ := ob hf
              obtain ⟨v9, -, hf⟩ := ob hf
              split at hf
              · obtain ⟨v10, -, hf⟩ := ob hf
                split at hf
                · exact Le.via (le_X11_pair_92 hf) rfl
                · obtain ⟨v11, -, hf⟩ := ob hf
                  exact Le.via (le_X11_pair_92 hf) rfl
              · obtain ⟨v12, -, hf⟩ := ob hf
                cases hf
                exact Le.rf
            · exact Le.via (le_X11_pair_44 hf) rfl
  · cases hf
set_option maxRecDepth 20000 in
theorem zm_X11_pair {N : Nat} {s : AS} {l0 : Nat} {l1 : Int32} {l2 : Int32} {l3 : Int32} {r : Int32 × AS} (hf : f_X11_pair N l0 l1 l2 l3 s = some r) : isO s.1 l0 11 ∧ ∀ (l : Launch) (G : GG), Mt l G yX11_pair cX11_pair 5 (some .int) 6 [.ref l0, .int l1, .int l2, .int l3] s (some (.int r.1)) r.2 := by
  have hf0 := hf
  unfold f_X11_pair at hf
  split at hf
  · rename_i hO
    refine ⟨hO, fun l G => mt_of (Or.inl (by decide)) (Nat.le_of_ble_eq_true rfl) (lm_X11_pair hf0) (fun E hE => ?_)⟩
    show Z E yX11_pair cX11_pair 5 (some .int) 6 s 0 [(0, .ref l0), (1, .int l1), (2, .int l2), (3, .int l3)] []
    refine z_aload_n 0 dX11_pair_0 rfl rfl ?_
    refine z_gP (ci := 11) (k := 1) (C := RX11) (T := TX11) (N := 14) rfl inlX11 (by decide) mw_1_19 (fun _ _ _ _ h9 => h9) hf (by decide) rfl dX11_pair_1  (fun v1 hf => ?_)
    refine z_gP (ci := 1) (k := 3) (C := RX1) (T := TX1) (N := 8) rfl inlX1 (by decide) mw_29_16 (fun _ _ _ _ h9 => h9) hf (by decide) rfl dX11_pair_4  (fun v2 hf => ?_)
    refine z_iload_n 1 dX11_pair_7 rfl rfl ?_
    obtain ⟨v3, ev3, hf⟩ := ob hf
    refine z_cVi (ci := 8) (T := TX8) (N := 2) (As := [.int l1]) (rest := []) (zm_X8_has ev3).2 (zm_X8_has ev3).1 (by decide) rfl (Or.inl rfl) mw_13_22 mw_13_23 mw_14_0 mw_3_13 mw_14_1 yk_X8_has (by decide) (by decide) rfl (Nat.le_of_ble_eq_true rfl) rfl dX11_pair_8 ?_
    refine z_if_eq 44 hf dX11_pair_11 (by decide) (fun hf => ?_) (fun hf => ?_)
    · refine z_lv [(0, .ref l0)] [0] rfl ?_
      exact zb_X11_pair_44 hE hf
    · refine z_aload_n 0 dX11_pair_14 rfl rfl ?_
      refine z_gP (ci := 11) (k := 1) (C := RX11) (T := TX11) (N := 14) rfl inlX11 (by decide) mw_1_19 (fun _ _ _ _ h9 => h9) hf (by decide) rfl dX11_pair_15  (fun v4 hf => ?_)
      refine z_gP (ci := 1) (k := 3) (C := RX1) (T := TX1) (N := 8) rfl inlX1 (by decide) mw_29_16 (fun _ _ _ _ h9 => h9) hf (by decide) rfl dX11_pair_18  (fun v5 hf => ?_)
      refine z_iload_n 2 dX11_pair_21 rfl rfl ?_
      obtain ⟨v6, ev6, hf⟩ := ob hf
      refine z_cVi (ci := 8) (T := TX8) (N := 2) (As := [.int l2]) (rest := []) (zm_X8_has ev6).2 (zm_X8_has ev6).1 (by decide) rfl (Or.inl rfl) mw_13_22 mw_13_23 mw_14_0 mw_3_13 mw_14_1 yk_X8_has (by decide) (by decide) rfl (Nat.le_of_ble_eq_true rfl) rfl dX11_pair_22 ?_
      refine z_if_eq 44 hf dX11_pair_25 (by decide) (fun hf => ?_) (fun hf => ?_)
      · refine z_lv [(0, .ref l0)] [0] rfl ?_
        exact zb_X11_pair_44 hE hf
      · refine z_iload_n 1 dX11_pair_28 rfl rfl ?_
        refine z_iload_n 2 dX11_pair_29 rfl rfl ?_
        refine z_icmp_eq 44 hf dX11_pair_30 (by decide) (fun hf => ?_) (fun hf => ?_)
        · refine z_lv [(0, .ref l0)] [0] rfl ?_
          exact zb_X11_pair_44 hE hf
        · refine z_iload_n 3 dX11_pair_33 rfl rfl ?_
          refine z_if_lt 44 hf dX11_pair_34 (by decide) (fun hf => ?_) (fun hf => ?_)
          · refine z_lv [(0, .ref l0)] [0] rfl ?_
            exact zb_X11_pair_44 hE hf
          · refine z_iload_n 3 dX11_pair_37 rfl rfl ?_
            refine z_sipush 10000 10000 dX11_pair_38 (by decide) ?_
            refine z_icmp_le 51 hf dX11_pair_41 (by decide) (fun hf => ?_) (fun hf => ?_)
            · refine z_aload_n 0 dX11_pair_51 rfl rfl ?_
              refine z_gP (ci := 11) (k := 1) (C := RX11) (T := TX11) (N := 14) rfl inlX11 (by decide) mw_1_19 (fun _ _ _ _ h9 => h9) hf (by decide) rfl dX11_pair_52  (fun v7 hf => ?_)
              refine z_gP (ci := 1) (k := 3) (C := RX1) (T := TX1) (N := 8) rfl inlX1 (by decide) mw_29_16 (fun _ _ _ _ h9 => h9) hf (by decide) rfl dX11_pair_55  (fun v8 hf => ?_)
              refine z_gI (ci := 8) (k := 1) (C := RX8) (T := TX8) (N := 2) rfl inlX8 (by decide) mw_12_13 (fun _ _ _ _ h9 => h9) hf (by decide) rfl dX11_pair_58  (fun v9 hf => ?_)
              refine z_bipush 12 12 dX11_pair_61 (by decide) ?_
              refine z_icmp_lt 73 hf dX11_pair_63 (by decide) (fun hf => ?_) (fun hf => ?_)
              · refine z_aload_n 0 dX11_pair_73 rfl rfl ?_
                refine z_iload_n 1 dX11_pair_74 rfl rfl ?_
                obtain ⟨v10, ev10, hf⟩ := ob hf
                refine z_cVi (ci := 11) (T := TX11) (N := 14) (As := [.int l1]) (rest := []) (zm_X11_whyUnpaired ev10).2 (zm_X11_whyUnpaired ev10).1 (by decide) rfl (Or.inl rfl) mw_31_17 mw_31_18 mw_31_19 mw_1_2 mw_31_20 yk_X11_whyUnpaired (by decide) (by decide) rfl (Nat.le_of_ble_eq_true rfl) rfl dX11_pair_75 ?_
                refine z_istore [(4, .int v10), (0, .ref l0), (1, .int l1), (2, .int l2), (3, .int l3)] dX11_pair_78 (by decide) rfl ?_
                refine z_iload 0 dX11_pair_80 rfl ?_
                refine z_if_ne 92 hf dX11_pair_82 (by decide) (fun hf => ?_) (fun hf => ?_)
                · refine z_lv [(0, .ref l0), (1, .int l1), (2, .int l2), (3, .int l3), (4, .int v10)] [1, 2, 3, 4, 0] rfl ?_
                  exact zb_X11_pair_92 hE hf
                · refine z_aload_n 1 dX11_pair_85 rfl rfl ?_
                  refine z_iload_n 3 dX11_pair_86 rfl rfl ?_
                  obtain ⟨v11, ev11, hf⟩ := ob hf
                  refine z_cVi (ci := 11) (T := TX11) (N := 14) (As := [.int l2]) (rest := []) (zm_X11_whyUnpaired ev11).2 (zm_X11_whyUnpaired ev11).1 (by decide) rfl (Or.inl rfl) mw_31_17 mw_31_18 mw_31_19 mw_1_2 mw_31_20 yk_X11_whyUnpaired (by decide) (by decide) rfl (Nat.le_of_ble_eq_true rfl) rfl dX11_pair_87 ?_
                  refine z_istore [(4, .int v11), (0, .ref l0), (1, .int l1), (2, .int l2), (3, .int l3)] dX11_pair_90 (by decide) rfl ?_
                  refine z_lv [(0, .ref l0), (1, .int l1), (2, .int l2), (3, .int l3), (4, .int v11)] [1, 2, 3, 4, 0] rfl ?_
                  exact zb_X11_pair_92 hE hf
              · refine z_aload_n 0 dX11_pair_66 rfl rfl ?_
                refine z_bipush (-3) (-3) dX11_pair_67 (by decide) ?_
                obtain ⟨v12, ev12, hf⟩ := ob hf
                refine z_cVi (ci := 11) (T := TX11) (N := 14) (As := [.int (-3 : Int32)]) (rest := []) (zm_X11_refuse ev12).2 (zm_X11_refuse ev12).1 (by decide) rfl (Or.inl rfl) mw_7_22 mw_7_23 mw_8_0 mw_1_2 mw_8_1 yk_X11_refuse (by decide) (by decide) rfl (Nat.le_of_ble_eq_true rfl) rfl dX11_pair_69 ?_
                cases hf
                exact z_ireturn hE rfl dX11_pair_72
            · refine z_lv [(0, .ref l0)] [0] rfl ?_
              exact zb_X11_pair_44 hE hf
  · cases hf
set_option maxRecDepth 20000 in
theorem zb_X11_part_24 {N : Nat} {sh : Sh} {r : Int32 × Dt} {E : EV} (hE : TG E (some (.int r.1)) (sh, r.2))  {l0 : Nat} {d : Dt} (hf : f_X11_part_24 N sh l0 d = some r) : Z E yX11_part cX11_part 3 (some .int) 3 (sh, d) 24 [(0, .ref l0)] [] := by
  unfold f_X11_part_24 at hf
  refine z_aload_n 0 dX11_part_24 rfl rfl ?_
  refine z_bipush (-2) (-2) dX11_part_25 (by decide) ?_
  obtain ⟨v8, ev8, hf⟩ := ob hf
  refine z_cVi (ci := 11) (T := TX11) (N := 14) (As := [.int (-2 : Int32)]) (rest := []) (zm_X11_refuse ev8).2 (zm_X11_refuse ev8).1 (by decide) rfl (Or.inl rfl) mw_7_22 mw_7_23 mw_8_0 mw_1_2 mw_8_1 yk_X11_refuse (by decide) (by decide) rfl (Nat.le_of_ble_eq_true rfl) rfl dX11_part_27 ?_
  cases hf
  exact z_ireturn hE rfl dX11_part_30
set_option maxRecDepth 20000 in
theorem zm_X11_part {N : Nat} {sh : Sh} {d : Dt} {l0 : Nat} {l1 : Int32} {l2 : Int32} {r : Int32 × Dt} (hf : f_X11_part N sh l0 l1 l2 d = some r) : isO sh l0 11 ∧ ∀ (l : Launch) (G : GG), Mt l G yX11_part cX11_part 3 (some .int) 3 [.ref l0, .int l1, .int l2] (sh, d) (some (.int r.1)) (sh, r.2) := by
  have hf0 := hf
  unfold f_X11_part at hf
  split at hf
  · rename_i hO
    refine ⟨hO, fun l G => mt_of (Or.inl (by decide)) (Nat.le_of_ble_eq_true rfl) Le.rf (fun E hE => ?_)⟩
    show Z E yX11_part cX11_part 3 (some .int) 3 (sh, d) 0 [(0, .ref l0), (1, .int l1), (2, .int l2)] []
    refine z_aload_n 0 dX11_part_0 rfl rfl ?_
    refine z_gP (ci := 11) (k := 1) (C := RX11) (T := TX11) (N := 14) rfl inlX11 (by decide) mw_1_19 (fun _ _ _ _ h9 => h9) hf (by decide) rfl dX11_part_1  (fun v1 hf => ?_)
    refine z_gP (ci := 1) (k := 3) (C := RX1) (T := TX1) (N := 8) rfl inlX1 (by decide) mw_29_16 (fun _ _ _ _ h9 => h9) hf (by decide) rfl dX11_part_4  (fun v2 hf => ?_)
    refine z_iload_n 1 dX11_part_7 rfl rfl ?_
    obtain ⟨v3, ev3, hf⟩ := ob hf
    refine z_cVi (ci := 8) (T := TX8) (N := 2) (As := [.int l1]) (rest := []) (zm_X8_has ev3).2 (zm_X8_has ev3).1 (by decide) rfl (Or.inl rfl) mw_13_22 mw_13_23 mw_14_0 mw_3_13 mw_14_1 yk_X8_has (by decide) (by decide) rfl (Nat.le_of_ble_eq_true rfl) rfl dX11_part_8 ?_
    refine z_if_eq 24 hf dX11_part_11 (by decide) (fun hf => ?_) (fun hf => ?_)
    · refine z_lv [(0, .ref l0)] [0] rfl ?_
      exact zb_X11_part_24 hE hf
    · refine z_iload_n 2 dX11_part_14 rfl rfl ?_
      refine z_if_lt 24 hf dX11_part_15 (by decide) (fun hf => ?_) (fun hf => ?_)
      · refine z_lv [(0, .ref l0)] [0] rfl ?_
        exact zb_X11_part_24 hE hf
      · refine z_iload_n 2 dX11_part_18 rfl rfl ?_
        refine z_bipush 9 9 dX11_part_19 (by decide) ?_
        refine z_icmp_lt 31 hf dX11_part_21 (by decide) (fun hf => ?_) (fun hf => ?_)
        · refine z_aload_n 0 dX11_part_31 rfl rfl ?_
          refine z_aload_n 0 dX11_part_32 rfl rfl ?_
          refine z_gP (ci := 11) (k := 1) (C := RX11) (T := TX11) (N := 14) rfl inlX11 (by decide) mw_1_19 (fun _ _ _ _ h9 => h9) hf (by decide) rfl dX11_part_33  (fun v4 hf => ?_)
          refine z_gP (ci := 1) (k := 3) (C := RX1) (T := TX1) (N := 8) rfl inlX1 (by decide) mw_29_16 (fun _ _ _ _ h9 => h9) hf (by decide) rfl dX11_part_36  (fun v5 hf => ?_)
          refine z_iload_n 1 dX11_part_39 rfl rfl ?_
          refine z_iload_n 2 dX11_part_40 rfl rfl ?_
          obtain ⟨v6, ev6, hf⟩ := ob hf
          refine z_cVi (ci := 8) (T := TX8) (N := 2) (As := [.int l1, .int l2]) (rest := [.ref l0]) (zm_X8_get ev6).2 (zm_X8_get ev6).1 (by decide) rfl (Or.inl rfl) mw_14_2 mw_10_11 mw_10_12 mw_3_13 mw_10_13 yk_X8_get (by decide) (by decide) rfl (Nat.le_of_ble_eq_true rfl) rfl dX11_part_41 ?_
          obtain ⟨v7, ev7, hf⟩ := ob hf
          refine z_cVi (ci := 11) (T := TX11) (N := 14) (As := [.int v6]) (rest := []) (zm_X11_answer ev7).2 (zm_X11_answer ev7).1 (by decide) rfl (Or.inl rfl) mw_11_2 mw_11_3 mw_11_4 mw_1_2 mw_11_5 yk_X11_answer (by decide) (by decide) rfl (Nat.le_of_ble_eq_true rfl) rfl dX11_part_44 ?_
          cases hf
          exact z_ireturn hE rfl dX11_part_47
        · refine z_lv [(0, .ref l0)] [0] rfl ?_
          exact zb_X11_part_24 hE hf
  · cases hf
set_option maxRecDepth 20000 in
theorem zb_X11_partner_33 {N : Nat} {sh : Sh} {r : Int32 × Dt} {E : EV} (hE : TG E (some (.int r.1)) (sh, r.2))  {t0 : Int32} {d : Dt} (hf : f_X11_partner_33 N sh t0 d = some r) : Z E yX11_partner cX11_partner 2 (some .int) 3 (sh, d) 33 [] [.int t0] := by
  unfold f_X11_partner_33 at hf
  cases hf
  exact z_ireturn hE rfl dX11_partner_33
set_option maxRecDepth 20000 in
theorem zm_X11_partner {N : Nat} {sh : Sh} {d : Dt} {l0 : Nat} {l1 : Int32} {r : Int32 × Dt} (hf : f_X11_partner N sh l0 l1 d = some r) : isO sh l0 11 ∧ ∀ (l : Launch) (G : GG), Mt l G yX11_partner cX11_partner 2 (some .int) 3 [.ref l0, .int l1] (sh, d) (some (.int r.1)) (sh, r.2) := by
  have hf0 := hf
  unfold f_X11_partner at hf
  split at hf
  · rename_i hO
    refine ⟨hO, fun l G => mt_of (Or.inl (by decide)) (Nat.le_of_ble_eq_true rfl) Le.rf (fun E hE => ?_)⟩
    show Z E yX11_partner cX11_partner 2 (some .int) 3 (sh, d) 0 [(0, .ref l0), (1, .int l1)] []
    refine z_aload_n 0 dX11_partner_0 rfl rfl ?_
    refine z_gP (ci := 11) (k := 1) (C := RX11) (T := TX11) (N := 14) rfl inlX11 (by decide) mw_1_19 (fun _ _ _ _ h9 => h9) hf (by decide) rfl dX11_partner_1  (fun v1 hf => ?_)
    refine z_iload_n 1 dX11_partner_4 rfl rfl ?_
    obtain ⟨v2, ev2, hf⟩ := ob hf
    refine z_cVi (ci := 1) (T := TX1) (N := 8) (As := [.int l1]) (rest := []) (zm_X1_hasCrossing ev2).2 (zm_X1_hasCrossing ev2).1 (by decide) rfl (Or.inl rfl) mw_12_14 mw_12_15 mw_12_16 mw_1_18 mw_12_17 yk_X1_hasCrossing (by decide) (by decide) rfl (Nat.le_of_ble_eq_true rfl) rfl dX11_partner_5 ?_
    refine z_if_eq 27 hf dX11_partner_8 (by decide) (fun hf => ?_) (fun hf => ?_)
    · refine z_aload_n 0 dX11_partner_27 rfl rfl ?_
      refine z_bipush (-2) (-2) dX11_partner_28 (by decide) ?_
      obtain ⟨v3, ev3, hf⟩ := ob hf
      refine z_cVi (ci := 11) (T := TX11) (N := 14) (As := [.int (-2 : Int32)]) (rest := []) (zm_X11_refuse ev3).2 (zm_X11_refuse ev3).1 (by decide) rfl (Or.inl rfl) mw_7_22 mw_7_23 mw_8_0 mw_1_2 mw_8_1 yk_X11_refuse (by decide) (by decide) rfl (Nat.le_of_ble_eq_true rfl) rfl dX11_partner_30 ?_
      refine z_lv [] [] rfl ?_
      exact zb_X11_partner_33 hE hf
    · refine z_aload_n 0 dX11_partner_11 rfl rfl ?_
      refine z_aload_n 0 dX11_partner_12 rfl rfl ?_
      refine z_gP (ci := 11) (k := 1) (C := RX11) (T := TX11) (N := 14) rfl inlX11 (by decide) mw_1_19 (fun _ _ _ _ h9 => h9) hf (by decide) rfl dX11_partner_13  (fun v4 hf => ?_)
      refine z_gP (ci := 1) (k := 6) (C := RX1) (T := TX1) (N := 8) rfl inlX1 (by decide) mw_52_14 (fun _ _ _ _ h9 => h9) hf (by decide) rfl dX11_partner_16  (fun v5 hf => ?_)
      refine z_iload_n 1 dX11_partner_19 rfl rfl ?_
      refine z_aI hf dX11_partner_20  (fun v6 hf => ?_)
      obtain ⟨v7, ev7, hf⟩ := ob hf
      refine z_cVi (ci := 11) (T := TX11) (N := 14) (As := [.int v6]) (rest := []) (zm_X11_answer ev7).2 (zm_X11_answer ev7).1 (by decide) rfl (Or.inl rfl) mw_11_2 mw_11_3 mw_11_4 mw_1_2 mw_11_5 yk_X11_answer (by decide) (by decide) rfl (Nat.le_of_ble_eq_true rfl) rfl dX11_partner_21 ?_
      refine z_goto 33 dX11_partner_24 (by decide) ?_
      refine z_lv [] [] rfl ?_
      exact zb_X11_partner_33 hE hf
  · cases hf
set_option maxRecDepth 20000 in
theorem le_X11_plough_20 {N : Nat} {r : Int32 × AS}  {l0 : Nat} {s : AS} (hf : f_X11_plough_20 N l0 s = some r) : Le s r.2 := by
  unfold f_X11_plough_20 at hf
  obtain ⟨v6, -, hf⟩ := ob hf
  cases hf
  exact Le.rf
set_option maxRecDepth 20000 in
theorem zb_X11_plough_20 {N : Nat} {r : Int32 × AS} {E : EV} (hE : TG E (some (.int r.1)) r.2)  {l0 : Nat} {s : AS} (hf : f_X11_plough_20 N l0 s = some r) : Z E yX11_plough cX11_plough 3 (some .int) 6 s 20 [(0, .ref l0)] [] := by
  unfold f_X11_plough_20 at hf
  refine z_aload_n 0 dX11_plough_20 rfl rfl ?_
  refine z_bipush (-2) (-2) dX11_plough_21 (by decide) ?_
  obtain ⟨v6, ev6, hf⟩ := ob hf
  refine z_cVi (ci := 11) (T := TX11) (N := 14) (As := [.int (-2 : Int32)]) (rest := []) (zm_X11_refuse ev6).2 (zm_X11_refuse ev6).1 (by decide) rfl (Or.inl rfl) mw_7_22 mw_7_23 mw_8_0 mw_1_2 mw_8_1 yk_X11_refuse (by decide) (by decide) rfl (Nat.le_of_ble_eq_true rfl) rfl dX11_plough_23 ?_
  cases hf
  exact z_ireturn hE rfl dX11_plough_26
set_option maxRecDepth 20000 in
theorem le_X11_plough_65 {N : Nat} {r : Int32 × AS}  {t0 : Nat} {t1 : Int32} {s : AS} (hf : f_X11_plough_65 N t0 t1 s = some r) : Le s r.2 := by
  unfold f_X11_plough_65 at hf
  obtain ⟨v9, -, hf⟩ := ob hf
  cases hf
  exact Le.rf
set_option maxRecDepth 20000 in
theorem zb_X11_plough_65 {N : Nat} {r : Int32 × AS} {E : EV} (hE : TG E (some (.int r.1)) r.2)  {t0 : Nat} {t1 : Int32} {s : AS} (hf : f_X11_plough_65 N t0 t1 s = some r) : Z E yX11_plough cX11_plough 3 (some .int) 6 s 65 [] [.int t1, .ref t0] := by
  unfold f_X11_plough_65 at hf
  obtain ⟨v9, ev9, hf⟩ := ob hf
  refine z_cVi (ci := 11) (T := TX11) (N := 14) (As := [.int t1]) (rest := []) (zm_X11_answer ev9).2 (zm_X11_answer ev9).1 (by decide) rfl (Or.inl rfl) mw_11_2 mw_11_3 mw_11_4 mw_1_2 mw_11_5 yk_X11_answer (by decide) (by decide) rfl (Nat.le_of_ble_eq_true rfl) rfl dX11_plough_65 ?_
  cases hf
  exact z_ireturn hE rfl dX11_plough_68
set_option maxRecDepth 20000 in
theorem le_X11_plough_60 {N : Nat} {r : Int32 × AS}  {l1 : Int32} {l2 : Int32} {t0 : Nat} {t1 : Nat} {t2 : Nat} {s : AS} (hf : f_X11_plough_60 N l1 l2 t0 t1 t2 s = some r) : Le s r.2 := by
  unfold f_X11_plough_60 at hf
  obtain ⟨v8, ev8, hf⟩ := ob hf
  refine Le.of (t := (s.1, s.2)) rfl ((lm_X11_enlist ev8).tr ?_)
  exact Le.via (le_X11_plough_65 hf) rfl
set_option maxRecDepth 20000 in
theorem zb_X11_plough_60 {N : Nat} {r : Int32 × AS} {E : EV} (hE : TG E (some (.int r.1)) r.2)  {l1 : Int32} {l2 : Int32} {t0 : Nat} {t1 : Nat} {t2 : Nat} {s : AS} (hf : f_X11_plough_60 N l1 l2 t0 t1 t2 s = some r) : Z E yX11_plough cX11_plough 3 (some .int) 6 s 60 [(1, .int l1), (2, .int l2)] [.ref t2, .ref t1, .ref t0] := by
  unfold f_X11_plough_60 at hf
  refine z_iload_n 0 dX11_plough_60 rfl rfl ?_
  refine z_iload_n 1 dX11_plough_61 rfl rfl ?_
  obtain ⟨v8, ev8, hf⟩ := ob hf
  refine z_cVi (ci := 11) (T := TX11) (N := 14) (As := [.ref t2, .int l1, .int l2]) (rest := [.ref t0]) (zm_X11_enlist ev8).2 (zm_X11_enlist ev8).1 (by decide) rfl (Or.inr (tg_le hE (le_X11_plough_65 hf))) mw_30_18 mw_30_19 mw_30_20 mw_1_2 mw_30_21 yk_X11_enlist (by decide) (by decide) rfl (Nat.le_of_ble_eq_true rfl) rfl dX11_plough_62 ?_
  refine z_lv [] [] rfl ?_
  exact zb_X11_plough_65 hE hf
set_option maxRecDepth 20000 in
theorem le_X11_plough_53 {N : Nat} {r : Int32 × AS}  {l0 : Nat} {l1 : Int32} {l2 : Int32} {s : AS} (hf : f_X11_plough_53 N l0 l1 l2 s = some r) : Le s r.2 := by
  unfold f_X11_plough_53 at hf
  obtain ⟨v7, ev7, hf⟩ := ob hf
  refine Le.of (t := (s.1, s.2)) rfl ((lm_X11_bodyOf ev7).tr ?_)
  exact Le.via (le_X11_plough_60 hf) rfl
set_option maxRecDepth 20000 in
theorem zb_X11_plough_53 {N : Nat} {r : Int32 × AS} {E : EV} (hE : TG E (some (.int r.1)) r.2)  {l0 : Nat} {l1 : Int32} {l2 : Int32} {s : AS} (hf : f_X11_plough_53 N l0 l1 l2 s = some r) : Z E yX11_plough cX11_plough 3 (some .int) 6 s 53 [(0, .ref l0), (1, .int l1), (2, .int l2)] [] := by
  unfold f_X11_plough_53 at hf
  refine z_aload_n 0 dX11_plough_53 rfl rfl ?_
  refine z_aload_n 0 dX11_plough_54 rfl rfl ?_
  refine z_aload_n 0 dX11_plough_55 rfl rfl ?_
  refine z_iload_n 1 dX11_plough_56 rfl rfl ?_
  obtain ⟨v7, ev7, hf⟩ := ob hf
  refine z_cVr (ci := 11) (T := TX11) (N := 14) (As := [.int l1]) (rest := [.ref l0, .ref l0]) (zm_X11_bodyOf ev7).2 (zm_X11_bodyOf ev7).1 (by decide) rfl (Or.inr (tg_le hE (le_X11_plough_60 hf))) mw_29_17 mw_29_18 mw_29_19 mw_1_2 mw_29_20 yk_X11_bodyOf (by decide) (by decide) rfl (Nat.le_of_ble_eq_true rfl) rfl dX11_plough_57 ?_
  refine z_lv [(1, .int l1), (2, .int l2)] [1, 2] rfl ?_
  exact zb_X11_plough_60 hE hf
set_option maxRecDepth 20000 in
theorem lm_X11_plough {N : Nat} {s : AS} {l0 : Nat} {l1 : Int32} {l2 : Int32} {r : Int32 × AS} (hf : f_X11_plough N l0 l1 l2 s = some r) : Le s r.2 := by
  unfold f_X11_plough at hf
  split at hf
  · skip
    split at hf
    · exact Le.via (le_X11_plough_20 hf) rfl
    · split at hf
      · exact Le.via (le_X11_plough_20 hf) rfl
      · split at hf
        · exact Le.via (le_X11_plough_20 hf) rfl
        · split at hf
          · obtain ⟨v1, -, hf⟩ := ob hf
            obtain ⟨v2, -, hf⟩ := ob hf
            obtain ⟨v3, -, hf⟩ := ob hf
            split at hf
            · obtain ⟨v4, ev4, hf⟩ := ob hf
              refine Le.of (t := (s.1, s.2)) rfl ((lm_X11_change ev4).tr ?_)
              exact Le.via (le_X11_plough_53 hf) rfl
            · obtain ⟨v5, -, hf⟩ := ob hf
              cases hf
              exact Le.rf
          · exact Le.via (le_X11_plough_20 hf) rfl
  · cases hf
set_option maxRecDepth 20000 in
theorem zm_X11_plough {N : Nat} {s : AS} {l0 : Nat} {l1 : Int32} {l2 : Int32} {r : Int32 × AS} (hf : f_X11_plough N l0 l1 l2 s = some r) : isO s.1 l0 11 ∧ ∀ (l : Launch) (G : GG), Mt l G yX11_plough cX11_plough 3 (some .int) 6 [.ref l0, .int l1, .int l2] s (some (.int r.1)) r.2 := by
  have hf0 := hf
  unfold f_X11_plough at hf
  split at hf
  · rename_i hO
    refine ⟨hO, fun l G => mt_of (Or.inl (by decide)) (Nat.le_of_ble_eq_true rfl) (lm_X11_plough hf0) (fun E hE => ?_)⟩
    show Z E yX11_plough cX11_plough 3 (some .int) 6 s 0 [(0, .ref l0), (1, .int l1), (2, .int l2)] []
    refine z_iload_n 1 dX11_plough_0 rfl rfl ?_
    refine z_if_lt 20 hf dX11_plough_1 (by decide) (fun hf => ?_) (fun hf => ?_)
    · refine z_lv [(0, .ref l0)] [0] rfl ?_
      exact zb_X11_plough_20 hE hf
    · refine z_iload_n 1 dX11_plough_4 rfl rfl ?_
      refine z_iconst 3 3 dX11_plough_5 (by decide) ?_
      refine z_icmp_gt 20 hf dX11_plough_6 (by decide) (fun hf => ?_) (fun hf => ?_)
      · refine z_lv [(0, .ref l0)] [0] rfl ?_
        exact zb_X11_plough_20 hE hf
      · refine z_iload_n 2 dX11_plough_9 rfl rfl ?_
        refine z_if_lt 20 hf dX11_plough_10 (by decide) (fun hf => ?_) (fun hf => ?_)
        · refine z_lv [(0, .ref l0)] [0] rfl ?_
          exact zb_X11_plough_20 hE hf
        · refine z_iload_n 2 dX11_plough_13 rfl rfl ?_
          refine z_sipush 10000 10000 dX11_plough_14 (by decide) ?_
          refine z_icmp_le 27 hf dX11_plough_17 (by decide) (fun hf => ?_) (fun hf => ?_)
          · refine z_aload_n 0 dX11_plough_27 rfl rfl ?_
            refine z_gP (ci := 11) (k := 1) (C := RX11) (T := TX11) (N := 14) rfl inlX11 (by decide) mw_1_19 (fun _ _ _ _ h9 => h9) hf (by decide) rfl dX11_plough_28  (fun v1 hf => ?_)
            refine z_gP (ci := 1) (k := 3) (C := RX1) (T := TX1) (N := 8) rfl inlX1 (by decide) mw_29_16 (fun _ _ _ _ h9 => h9) hf (by decide) rfl dX11_plough_31  (fun v2 hf => ?_)
            refine z_gI (ci := 8) (k := 1) (C := RX8) (T := TX8) (N := 2) rfl inlX8 (by decide) mw_12_13 (fun _ _ _ _ h9 => h9) hf (by decide) rfl dX11_plough_34  (fun v3 hf => ?_)
            refine z_bipush 12 12 dX11_plough_37 (by decide) ?_
            refine z_icmp_lt 49 hf dX11_plough_39 (by decide) (fun hf => ?_) (fun hf => ?_)
            · refine z_aload_n 0 dX11_plough_49 rfl rfl ?_
              obtain ⟨v4, ev4, hf⟩ := ob hf
              refine z_cVv (ci := 11) (T := TX11) (N := 14) (As := []) (rest := []) (zm_X11_change ev4).2 (zm_X11_change ev4).1 (by decide) rfl (Or.inr (tg_le hE (le_X11_plough_53 hf))) mw_8_7 mw_8_8 mw_8_9 mw_1_2 mw_8_10 yk_X11_change (by decide) (by decide) rfl (Nat.le_of_ble_eq_true rfl) rfl dX11_plough_50 ?_
              exact zb_X11_plough_53 hE hf
            · refine z_aload_n 0 dX11_plough_42 rfl rfl ?_
              refine z_bipush (-3) (-3) dX11_plough_43 (by decide) ?_
              obtain ⟨v5, ev5, hf⟩ := ob hf
              refine z_cVi (ci := 11) (T := TX11) (N := 14) (As := [.int (-3 : Int32)]) (rest := []) (zm_X11_refuse ev5).2 (zm_X11_refuse ev5).1 (by decide) rfl (Or.inl rfl) mw_7_22 mw_7_23 mw_8_0 mw_1_2 mw_8_1 yk_X11_refuse (by decide) (by decide) rfl (Nat.le_of_ble_eq_true rfl) rfl dX11_plough_45 ?_
              cases hf
              exact z_ireturn hE rfl dX11_plough_48
          · refine z_lv [(0, .ref l0)] [0] rfl ?_
            exact zb_X11_plough_20 hE hf
  · cases hf
set_option maxRecDepth 20000 in
theorem le_X11_put_41 {N : Nat} {r : AS}  {l0 : Nat} {l1 : Int32} {s : AS} (hf : f_X11_put_41 N l0 l1 s = some r) : Le s r := by
  unfold f_X11_put_41 at hf
  obtain ⟨v7, -, hf⟩ := ob hf
  obtain ⟨v8, -, hf⟩ := ob hf
  obtain ⟨d9, -, hf⟩ := ob hf
  obtain ⟨v10, -, hf⟩ := ob hf
  obtain ⟨d11, -, hf⟩ := ob hf
  cases hf
  exact Le.rf
set_option maxRecDepth 20000 in
theorem zb_X11_put_41 {N : Nat} {r : AS} {E : EV} (hE : TG E none r)  {l0 : Nat} {l1 : Int32} {s : AS} (hf : f_X11_put_41 N l0 l1 s = some r) : Z E yX11_put cX11_put 3 none 1 s 41 [(0, .ref l0), (1, .int l1)] [] := by
  unfold f_X11_put_41 at hf
  refine z_aload_n 0 dX11_put_41 rfl rfl ?_
  refine z_gQ (ci := 11) (k := 11) (C := RX11) (T := TX11) (N := 14) rfl inlX11 (by decide) mw_2_18 (fun _ _ _ _ h9 => h9) hf (by decide) rfl dX11_put_42  (fun v7 hf => ?_)
  refine z_aload_n 0 dX11_put_45 rfl rfl ?_
  refine z_gI (ci := 11) (k := 12) (C := RX11) (T := TX11) (N := 14) rfl inlX11 (by decide) mw_2_19 (fun _ _ _ _ h9 => h9) hf (by decide) rfl dX11_put_46  (fun v8 hf => ?_)
  refine z_iload_n 1 dX11_put_49 rfl rfl ?_
  refine z_sC hf dX11_put_50  (fun d9 hf => ?_)
  refine z_aload_n 0 dX11_put_51 rfl rfl ?_
  refine z_dup dX11_put_52 rfl ?_
  refine z_gI (ci := 11) (k := 12) (C := RX11) (T := TX11) (N := 14) rfl inlX11 (by decide) mw_2_19 (fun _ _ _ _ h9 => h9) hf (by decide) rfl dX11_put_53  (fun v10 hf => ?_)
  refine z_iconst 1 1 dX11_put_56 (by decide) ?_
  refine z_iadd dX11_put_57 ?_
  refine z_pI (ci := 11) (k := 12) (C := RX11) (T := TX11) (N := 14) rfl inlX11 (by decide) mw_2_19 (fun _ _ _ _ h9 => h9) tyX11 tyX11_ok nmX11 rfl hf (Or.inl (by decide)) rfl rfl rfl dX11_put_58  (fun d11 hf => ?_)
  cases hf
  exact z_return hE rfl dX11_put_61
set_option maxRecDepth 20000 in
theorem le_X11_put_21 {N : Nat} {r : AS}  {l0 : Nat} {l1 : Int32} {t0 : Nat} {s : AS} (hf : f_X11_put_21 N l0 l1 t0 s = some r) : Le s r := by
  unfold f_X11_put_21 at hf
  obtain ⟨v12, -, hf⟩ := ob hf
  obtain ⟨v13, -, hf⟩ := ob hf
  obtain ⟨d14, -, hf⟩ := ob hf
  obtain ⟨d15, -, hf⟩ := ob hf
  exact Le.via (le_X11_put_41 hf) rfl
set_option maxRecDepth 20000 in
theorem zb_X11_put_21 {N : Nat} {r : AS} {E : EV} (hE : TG E none r)  {l0 : Nat} {l1 : Int32} {t0 : Nat} {s : AS} (hf : f_X11_put_21 N l0 l1 t0 s = some r) : Z E yX11_put cX11_put 3 none 1 s 21 [(0, .ref l0), (1, .int l1)] [.ref t0] := by
  unfold f_X11_put_21 at hf
  refine z_astore_n [(2, .ref t0), (0, .ref l0), (1, .int l1)] dX11_put_21 rfl (by decide) rfl ?_
  refine z_aload_n 1 dX11_put_22 rfl rfl ?_
  refine z_gQ (ci := 11) (k := 11) (C := RX11) (T := TX11) (N := 14) rfl inlX11 (by decide) mw_2_18 (fun _ _ _ _ h9 => h9) hf (by decide) rfl dX11_put_23  (fun v12 hf => ?_)
  refine z_iconst 0 0 dX11_put_26 (by decide) ?_
  refine z_aload_n 0 dX11_put_27 rfl rfl ?_
  refine z_iconst 0 0 dX11_put_28 (by decide) ?_
  refine z_aload_n 1 dX11_put_29 rfl rfl ?_
  refine z_gI (ci := 11) (k := 12) (C := RX11) (T := TX11) (N := 14) rfl inlX11 (by decide) mw_2_19 (fun _ _ _ _ h9 => h9) hf (by decide) rfl dX11_put_30  (fun v13 hf => ?_)
  refine z_cpy hf mw_56_22 mw_8_16 mw_8_17 mw_8_18 (by decide) (Nat.le_of_ble_eq_true rfl) dX11_put_33 (fun d14 hf => ?_)
  refine z_aload_n 1 dX11_put_36 rfl rfl ?_
  refine z_aload_n 0 dX11_put_37 rfl rfl ?_
  refine z_pQ (ci := 11) (k := 11) (C := RX11) (T := TX11) (N := 14) rfl inlX11 (by decide) mw_2_18 (fun _ _ _ _ h9 => h9) tyX11 tyX11_ok nmX11 rfl hf (by decide) rfl rfl rfl dX11_put_38  (fun d15 hf => ?_)
  refine z_lv [(0, .ref l0), (1, .int l1)] [1, 2] rfl ?_
  exact zb_X11_put_41 hE hf
set_option maxRecDepth 20000 in
theorem lm_X11_put {N : Nat} {s : AS} {l0 : Nat} {l1 : Int32} {r : AS} (hf : f_X11_put N l0 l1 s = some r) : Le s r := by
  unfold f_X11_put at hf
  split at hf
  · skip
    obtain ⟨v1, -, hf⟩ := ob hf
    obtain ⟨v2, -, hf⟩ := ob hf
    obtain ⟨v3, -, hf⟩ := ob hf
    split at hf
    · exact Le.via (le_X11_put_41 hf) rfl
    · obtain ⟨v4, -, hf⟩ := ob hf
      obtain ⟨v5, -, hf⟩ := ob hf
      obtain ⟨s6, es6, hf⟩ := ob hf
      refine Le.of (t := (s.1, s.2)) rfl ((le_nArr es6).tr ?_)
      exact Le.via (le_X11_put_21 hf) rfl
  · cases hf
set_option maxRecDepth 20000 in
theorem zm_X11_put {N : Nat} {s : AS} {l0 : Nat} {l1 : Int32} {r : AS} (hf : f_X11_put N l0 l1 s = some r) : isO s.1 l0 11 ∧ ∀ (l : Launch) (G : GG), Mt l G yX11_put cX11_put 3 none 1 [.ref l0, .int l1] s none r := by
  have hf0 := hf
  unfold f_X11_put at hf
  split at hf
  · rename_i hO
    refine ⟨hO, fun l G => mt_of (Or.inl (by decide)) (Nat.le_of_ble_eq_true rfl) (lm_X11_put hf0) (fun E hE => ?_)⟩
    show Z E yX11_put cX11_put 3 none 1 s 0 [(0, .ref l0), (1, .int l1)] []
    refine z_aload_n 0 dX11_put_0 rfl rfl ?_
    refine z_gI (ci := 11) (k := 12) (C := RX11) (T := TX11) (N := 14) rfl inlX11 (by decide) mw_2_19 (fun _ _ _ _ h9 => h9) hf (by decide) rfl dX11_put_1  (fun v1 hf => ?_)
    refine z_aload_n 0 dX11_put_4 rfl rfl ?_
    refine z_gQ (ci := 11) (k := 11) (C := RX11) (T := TX11) (N := 14) rfl inlX11 (by decide) mw_2_18 (fun _ _ _ _ h9 => h9) hf (by decide) rfl dX11_put_5  (fun v2 hf => ?_)
    refine z_aLen hf dX11_put_8  (fun v3 hf => ?_)
    refine z_icmp_lt 41 hf dX11_put_9 (by decide) (fun hf => ?_) (fun hf => ?_)
    · exact zb_X11_put_41 hE hf
    · refine z_iconst 2 2 dX11_put_12 (by decide) ?_
      refine z_aload_n 0 dX11_put_13 rfl rfl ?_
      refine z_gQ (ci := 11) (k := 11) (C := RX11) (T := TX11) (N := 14) rfl inlX11 (by decide) mw_2_18 (fun _ _ _ _ h9 => h9) hf (by decide) rfl dX11_put_14  (fun v4 hf => ?_)
      refine z_aLen hf dX11_put_17  (fun v5 hf => ?_)
      refine z_imul dX11_put_18 ?_
      refine z_na3 hf (fun _ hf => tg_le hE (le_X11_put_21 hf)) mw_2_17 dX11_put_19 (fun s6 hf => ?_)
      exact zb_X11_put_21 hE hf
  · cases hf
set_option maxRecDepth 20000 in
theorem zb_X11_read_56 {N : Nat} {sh : Sh} {r : Int32 × Dt} {E : EV} (hE : TG E (some (.int r.1)) (sh, r.2))  {t0 : Int32} {d : Dt} (hf : f_X11_read_56 N sh t0 d = some r) : Z E yX11_read cX11_read 4 (some .int) 5 (sh, d) 56 [] [.int t0] := by
  unfold f_X11_read_56 at hf
  cases hf
  exact z_ireturn hE rfl dX11_read_56
set_option maxRecDepth 20000 in
theorem zm_X11_read {N : Nat} {sh : Sh} {d : Dt} {l0 : Nat} {l1 : Int32} {l2 : Int32} {r : Int32 × Dt} (hf : f_X11_read N sh l0 l1 l2 d = some r) : isO sh l0 11 ∧ ∀ (l : Launch) (G : GG), Mt l G yX11_read cX11_read 4 (some .int) 5 [.ref l0, .int l1, .int l2] (sh, d) (some (.int r.1)) (sh, r.2) := by
  have hf0 := hf
  unfold f_X11_read at hf
  split at hf
  · rename_i hO
    refine ⟨hO, fun l G => mt_of (Or.inl (by decide)) (Nat.le_of_ble_eq_true rfl) Le.rf (fun E hE => ?_)⟩
    show Z E yX11_read cX11_read 4 (some .int) 5 (sh, d) 0 [(0, .ref l0), (1, .int l1), (2, .int l2)] []
    refine z_aload_n 0 dX11_read_0 rfl rfl ?_
    refine z_gP (ci := 11) (k := 1) (C := RX11) (T := TX11) (N := 14) rfl inlX11 (by decide) mw_1_19 (fun _ _ _ _ h9 => h9) hf (by decide) rfl dX11_read_1  (fun v1 hf => ?_)
    refine z_gP (ci := 1) (k := 2) (C := RX1) (T := TX1) (N := 8) rfl inlX1 (by decide) mw_19_21 (fun _ _ _ _ h9 => h9) hf (by decide) rfl dX11_read_4  (fun v2 hf => ?_)
    refine z_iload_n 1 dX11_read_7 rfl rfl ?_
    obtain ⟨v3, ev3, hf⟩ := ob hf
    refine z_cVi (ci := 8) (T := TX8) (N := 2) (As := [.int l1]) (rest := []) (zm_X8_has ev3).2 (zm_X8_has ev3).1 (by decide) rfl (Or.inl rfl) mw_13_22 mw_13_23 mw_14_0 mw_3_13 mw_14_1 yk_X8_has (by decide) (by decide) rfl (Nat.le_of_ble_eq_true rfl) rfl dX11_read_8 ?_
    refine z_if_ne 21 hf dX11_read_11 (by decide) (fun hf => ?_) (fun hf => ?_)
    · refine z_aload_n 0 dX11_read_21 rfl rfl ?_
      refine z_gP (ci := 11) (k := 1) (C := RX11) (T := TX11) (N := 14) rfl inlX11 (by decide) mw_1_19 (fun _ _ _ _ h9 => h9) hf (by decide) rfl dX11_read_22  (fun v4 hf => ?_)
      refine z_iload_n 1 dX11_read_25 rfl rfl ?_
      refine z_iload_n 2 dX11_read_26 rfl rfl ?_
      obtain ⟨v5, ev5, hf⟩ := ob hf
      refine z_cVi (ci := 1) (T := TX1) (N := 8) (As := [.int l1, .int l2]) (rest := []) (zm_X1_whyUnread ev5).2 (zm_X1_whyUnread ev5).1 (by decide) rfl (Or.inl rfl) mw_22_18 mw_22_19 mw_22_20 mw_1_18 mw_22_21 yk_X1_whyUnread (by decide) (by decide) rfl (Nat.le_of_ble_eq_true rfl) rfl dX11_read_27 ?_
      refine z_istore_n [(3, .int v5), (0, .ref l0), (1, .int l1), (2, .int l2)] dX11_read_30 rfl (by decide) rfl ?_
      refine z_iload_n 0 dX11_read_31 rfl rfl ?_
      refine z_if_eq 43 hf dX11_read_32 (by decide) (fun hf => ?_) (fun hf => ?_)
      · refine z_aload_n 1 dX11_read_43 rfl rfl ?_
        refine z_aload_n 1 dX11_read_44 rfl rfl ?_
        refine z_gP (ci := 11) (k := 1) (C := RX11) (T := TX11) (N := 14) rfl inlX11 (by decide) mw_1_19 (fun _ _ _ _ h9 => h9) hf (by decide) rfl dX11_read_45  (fun v6 hf => ?_)
        refine z_iload_n 2 dX11_read_48 rfl rfl ?_
        refine z_iload_n 3 dX11_read_49 rfl rfl ?_
        obtain ⟨v7, ev7, hf⟩ := ob hf
        refine z_cVi (ci := 1) (T := TX1) (N := 8) (As := [.int l1, .int l2]) (rest := [.ref l0]) (zm_X1_tenths ev7).2 (zm_X1_tenths ev7).1 (by decide) rfl (Or.inl rfl) mw_24_2 mw_24_3 mw_24_4 mw_1_18 mw_24_5 yk_X1_tenths (by decide) (by decide) rfl (Nat.le_of_ble_eq_true rfl) rfl dX11_read_50 ?_
        obtain ⟨v8, ev8, hf⟩ := ob hf
        refine z_cVi (ci := 11) (T := TX11) (N := 14) (As := [.int v7]) (rest := []) (zm_X11_answer ev8).2 (zm_X11_answer ev8).1 (by decide) rfl (Or.inl rfl) mw_11_2 mw_11_3 mw_11_4 mw_1_2 mw_11_5 yk_X11_answer (by decide) (by decide) rfl (Nat.le_of_ble_eq_true rfl) rfl dX11_read_53 ?_
        refine z_lv [] [] rfl ?_
        exact zb_X11_read_56 hE hf
      · refine z_aload_n 1 dX11_read_35 rfl rfl ?_
        refine z_iload_n 0 dX11_read_36 rfl rfl ?_
        obtain ⟨v9, ev9, hf⟩ := ob hf
        refine z_cVi (ci := 11) (T := TX11) (N := 14) (As := [.int v5]) (rest := []) (zm_X11_refuse ev9).2 (zm_X11_refuse ev9).1 (by decide) rfl (Or.inl rfl) mw_7_22 mw_7_23 mw_8_0 mw_1_2 mw_8_1 yk_X11_refuse (by decide) (by decide) rfl (Nat.le_of_ble_eq_true rfl) rfl dX11_read_37 ?_
        refine z_goto 56 dX11_read_40 (by decide) ?_
        refine z_lv [] [] rfl ?_
        exact zb_X11_read_56 hE hf
    · refine z_aload_n 0 dX11_read_14 rfl rfl ?_
      refine z_bipush (-2) (-2) dX11_read_15 (by decide) ?_
      obtain ⟨v10, ev10, hf⟩ := ob hf
      refine z_cVi (ci := 11) (T := TX11) (N := 14) (As := [.int (-2 : Int32)]) (rest := []) (zm_X11_refuse ev10).2 (zm_X11_refuse ev10).1 (by decide) rfl (Or.inl rfl) mw_7_22 mw_7_23 mw_8_0 mw_1_2 mw_8_1 yk_X11_refuse (by decide) (by decide) rfl (Nat.le_of_ble_eq_true rfl) rfl dX11_read_17 ?_
      cases hf
      exact z_ireturn hE rfl dX11_read_20
  · cases hf
set_option maxRecDepth 20000 in
theorem zb_X11_readGauges_65 {N : Nat} {sh : Sh} {r : Dt} {E : EV} (hE : TG E none (sh, r))   {d : Dt} (hf : f_X11_readGauges_65 N sh  d = some r) : Z E yX11_readGauges cX11_readGauges 4 none 4 (sh, d) 65 [] [] := by
  unfold f_X11_readGauges_65 at hf
  cases hf
  exact z_return hE rfl dX11_readGauges_65
set_option maxRecDepth 20000 in
theorem zb_X11_readGauges_58 {N : Nat} {sh : Sh} {k2 : Nat → Int32 → Int32 → Dt → Option Dt} {r : Dt} {E : EV} (hE : TG E none (sh, r)) (hk2 : ∀ (l0 : Nat) (l1 : Int32) (l2 : Int32) (d : Dt), k2 l0 l1 l2 d = some r → Z E yX11_readGauges cX11_readGauges 4 none 4 (sh, d) 2 [(0, .ref l0), (1, .int l1), (2, .int l2)] []) {l0 : Nat} {l1 : Int32} {l2 : Int32} {t0 : Nat} {t1 : Int32} {t2 : UInt32} {d : Dt} (hf : f_X11_readGauges_58 N sh k2 l0 l1 l2 t0 t1 t2 d = some r) : Z E yX11_readGauges cX11_readGauges 4 none 4 (sh, d) 58 [(0, .ref l0), (1, .int l1), (2, .int l2)] [.float t2, .int t1, .ref t0] := by
  unfold f_X11_readGauges_58 at hf
  refine z_sF hf dX11_readGauges_58  (fun d11 hf => ?_)
  refine z_iinc [(2, .int (l2 + 1)), (0, .ref l0), (1, .int l1)] 2 (l2 + 1) dX11_readGauges_59 rfl rfl (by decide) rfl ?_
  refine z_goto 2 dX11_readGauges_62 (by decide) ?_
  refine z_lv [(0, .ref l0), (1, .int l1), (2, .int (l2 + 1))] [1, 2, 0] rfl ?_
  exact hk2 _ _ _ _ hf
set_option maxRecDepth 20000 in
theorem zg_X11_readGauges_2 {N : Nat} {sh : Sh} {r : Dt} {k2 : Nat → Int32 → Int32 → Dt → Option Dt} {E : EV} (hE : TG E none (sh, r))  (hk2 : ∀ (l0 : Nat) (l1 : Int32) (l2 : Int32) (d : Dt), k2 l0 l1 l2 d = some r → Z E yX11_readGauges cX11_readGauges 4 none 4 (sh, d) 2 [(0, .ref l0), (1, .int l1), (2, .int l2)] []) {l0 : Nat} {l1 : Int32} {l2 : Int32} {d : Dt} (hf : g_X11_readGauges_2 N sh k2 l0 l1 l2 d = some r) : Z E yX11_readGauges cX11_readGauges 4 none 4 (sh, d) 2 [(0, .ref l0), (1, .int l1), (2, .int l2)] [] := by
  unfold g_X11_readGauges_2 at hf
  refine z_iload_n 2 dX11_readGauges_2 rfl rfl ?_
  refine z_aload_n 0 dX11_readGauges_3 rfl rfl ?_
  refine z_gP (ci := 11) (k := 1) (C := RX11) (T := TX11) (N := 14) rfl inlX11 (by decide) mw_1_19 (fun _ _ _ _ h9 => h9) hf (by decide) rfl dX11_readGauges_4  (fun v1 hf => ?_)
  refine z_gP (ci := 1) (k := 2) (C := RX1) (T := TX1) (N := 8) rfl inlX1 (by decide) mw_19_21 (fun _ _ _ _ h9 => h9) hf (by decide) rfl dX11_readGauges_7  (fun v2 hf => ?_)
  refine z_gI (ci := 8) (k := 1) (C := RX8) (T := TX8) (N := 2) rfl inlX8 (by decide) mw_12_13 (fun _ _ _ _ h9 => h9) hf (by decide) rfl dX11_readGauges_10  (fun v3 hf => ?_)
  refine z_icmp_ge 65 hf dX11_readGauges_13 (by decide) (fun hf => ?_) (fun hf => ?_)
  · refine z_lv [] [] rfl ?_
    exact zb_X11_readGauges_65 hE hf
  · refine z_aload_n 0 dX11_readGauges_16 rfl rfl ?_
    refine z_gP (ci := 11) (k := 1) (C := RX11) (T := TX11) (N := 14) rfl inlX11 (by decide) mw_1_19 (fun _ _ _ _ h9 => h9) hf (by decide) rfl dX11_readGauges_17  (fun v4 hf => ?_)
    refine z_iload_n 2 dX11_readGauges_20 rfl rfl ?_
    refine z_iload_n 1 dX11_readGauges_21 rfl rfl ?_
    obtain ⟨v5, ev5, hf⟩ := ob hf
    refine z_cVi (ci := 1) (T := TX1) (N := 8) (As := [.int l2, .int l1]) (rest := []) (zm_X1_whyUnread ev5).2 (zm_X1_whyUnread ev5).1 (by decide) rfl (Or.inl rfl) mw_22_18 mw_22_19 mw_22_20 mw_1_18 mw_22_21 yk_X1_whyUnread (by decide) (by decide) rfl (Nat.le_of_ble_eq_true rfl) rfl dX11_readGauges_22 ?_
    refine z_istore_n [(3, .int v5), (0, .ref l0), (1, .int l1), (2, .int l2)] dX11_readGauges_25 rfl (by decide) rfl ?_
    refine z_aload_n 1 dX11_readGauges_26 rfl rfl ?_
    refine z_gP (ci := 11) (k := 0) (C := RX11) (T := TX11) (N := 14) rfl inlX11 (by decide) mw_1_15 (fun _ _ _ _ h9 => h9) hf (by decide) rfl dX11_readGauges_27  (fun v6 hf => ?_)
    refine z_iload_n 0 dX11_readGauges_30 rfl rfl ?_
    obtain ⟨v7, ev7, hf⟩ := ob hf
    refine z_cVv (ci := 2) (T := TX2) (N := 4) (As := [.int v5]) (rest := []) (zm_X2_find ev7).2 (zm_X2_find ev7).1 (by decide) rfl (Or.inl rfl) mw_8_3 mw_8_4 mw_8_5 mw_1_14 mw_8_6 yk_X2_find (by decide) (by decide) rfl (Nat.le_of_ble_eq_true rfl) rfl dX11_readGauges_31 ?_
    refine z_aload_n 1 dX11_readGauges_34 rfl rfl ?_
    refine z_gP (ci := 11) (k := 7) (C := RX11) (T := TX11) (N := 14) rfl inlX11 (by decide) mw_2_12 (fun _ _ _ _ h9 => h9) hf (by decide) rfl dX11_readGauges_35  (fun v8 hf => ?_)
    refine z_iload_n 3 dX11_readGauges_38 rfl rfl ?_
    refine z_iload_n 0 dX11_readGauges_39 rfl rfl ?_
    refine z_if_ne 55 hf dX11_readGauges_40 (by decide) (fun hf => ?_) (fun hf => ?_)
    · refine z_ldcwf mw_27_10 dX11_readGauges_55 ?_
      refine z_lv [(0, .ref l0), (1, .int l1), (2, .int l2)] [1, 2, 3] rfl ?_
      exact zb_X11_readGauges_58 hE hk2 hf
    · refine z_aload_n 1 dX11_readGauges_43 rfl rfl ?_
      refine z_gP (ci := 11) (k := 1) (C := RX11) (T := TX11) (N := 14) rfl inlX11 (by decide) mw_1_19 (fun _ _ _ _ h9 => h9) hf (by decide) rfl dX11_readGauges_44  (fun v9 hf => ?_)
      refine z_iload_n 3 dX11_readGauges_47 rfl rfl ?_
      refine z_iload_n 2 dX11_readGauges_48 rfl rfl ?_
      obtain ⟨v10, ev10, hf⟩ := ob hf
      refine z_cVf (ci := 1) (T := TX1) (N := 8) (As := [.int l2, .int l1]) (rest := [.int l2, .ref v8]) (zm_X1_height ev10).2 (zm_X1_height ev10).1 (by decide) rfl (Or.inl rfl) mw_27_11 mw_24_10 mw_24_11 mw_1_18 mw_24_12 yk_X1_height (by decide) (by decide) rfl (Nat.le_of_ble_eq_true rfl) rfl dX11_readGauges_49 ?_
      refine z_goto 58 dX11_readGauges_52 (by decide) ?_
      refine z_lv [(0, .ref l0), (1, .int l1), (2, .int l2)] [1, 2, 3] rfl ?_
      exact zb_X11_readGauges_58 hE hk2 hf
set_option maxRecDepth 20000 in
theorem zb_X11_readGauges_2 {N : Nat} {sh : Sh} {r : Dt} {E : EV} (hE : TG E none (sh, r))  : ∀ (n : Nat) (l0 : Nat) (l1 : Int32) (l2 : Int32) (d : Dt), f_X11_readGauges_2 N sh n l0 l1 l2 d = some r → Z E yX11_readGauges cX11_readGauges 4 none 4 (sh, d) 2 [(0, .ref l0), (1, .int l1), (2, .int l2)] [] := by
  intro n
  induction n with
  | zero => intro l0 l1 l2 d hf; cases hf
  | succ n ih => intro l0 l1 l2 d hf; exact zg_X11_readGauges_2 hE ih hf
set_option maxRecDepth 20000 in
theorem zm_X11_readGauges {N : Nat} {sh : Sh} {d : Dt} {l0 : Nat} {l1 : Int32} {r : Dt} (hf : f_X11_readGauges N sh l0 l1 d = some r) : isO sh l0 11 ∧ ∀ (l : Launch) (G : GG), Mt l G yX11_readGauges cX11_readGauges 4 none 4 [.ref l0, .int l1] (sh, d) none (sh, r) := by
  have hf0 := hf
  unfold f_X11_readGauges at hf
  split at hf
  · rename_i hO
    refine ⟨hO, fun l G => mt_of (Or.inl (by decide)) (Nat.le_of_ble_eq_true rfl) Le.rf (fun E hE => ?_)⟩
    show Z E yX11_readGauges cX11_readGauges 4 none 4 (sh, d) 0 [(0, .ref l0), (1, .int l1)] []
    refine z_iconst 0 0 dX11_readGauges_0 (by decide) ?_
    refine z_istore_n [(2, .int (0 : Int32)), (0, .ref l0), (1, .int l1)] dX11_readGauges_1 rfl (by decide) rfl ?_
    refine z_lv [(0, .ref l0), (1, .int l1), (2, .int (0 : Int32))] [1, 2, 0] rfl ?_
    exact zb_X11_readGauges_2 hE N _ _ _ _ hf
  · cases hf
set_option maxRecDepth 20000 in
theorem zb_X1_cellOfShort_26 {N : Nat} {sh : Sh} {d : Dt} {r : Int64} {E : EV} (hE : TG E (some (.long r)) (sh, d))  {t0 : Int64} (hf : f_X1_cellOfShort_26 N sh t0 d = some r) : Z E yX1_cellOfShort cX1_cellOfShort 1 (some .long) 1 (sh, d) 26 [] [.long t0] := by
  unfold f_X1_cellOfShort_26 at hf
  cases hf
  exact z_lreturn hE rfl dX1_cellOfShort_26
set_option maxRecDepth 20000 in
theorem zm_X1_cellOfShort {N : Nat} {sh : Sh} {d : Dt} {l0 : Int32} {r : Int64} (hf : f_X1_cellOfShort N sh l0 d = some r) : ∀ (l : Launch) (G : GG), Mt l G yX1_cellOfShort cX1_cellOfShort 1 (some .long) 1 [.int l0] (sh, d) (some (.long r)) (sh, d) := by
  have hf0 := hf
  unfold f_X1_cellOfShort at hf
  refine fun l G => mt_of (Or.inl (by decide)) (Nat.le_of_ble_eq_true rfl) Le.rf (fun E hE => ?_)
  show Z E yX1_cellOfShort cX1_cellOfShort 1 (some .long) 1 (sh, d) 0 [(0, .int l0)] []
  refine z_iload_n 0 dX1_cellOfShort_0 rfl rfl ?_
  refine z_sipush (-32768) (-32768) dX1_cellOfShort_1 (by decide) ?_
  refine z_icmp_ne 11 hf dX1_cellOfShort_4 (by decide) (fun hf => ?_) (fun hf => ?_)
  · refine z_iload_n 0 dX1_cellOfShort_11 rfl rfl ?_
    refine z_sipush 32767 32767 dX1_cellOfShort_12 (by decide) ?_
    refine z_icmp_ne 24 hf dX1_cellOfShort_15 (by decide) (fun hf => ?_) (fun hf => ?_)
    · refine z_iload_n 0 dX1_cellOfShort_24 rfl rfl ?_
      refine z_i2l dX1_cellOfShort_25 ?_
      refine z_lv [] [] rfl ?_
      exact zb_X1_cellOfShort_26 hE hf
    · refine z_ldc2 mw_22_13 dX1_cellOfShort_18 ?_
      refine z_goto 26 dX1_cellOfShort_21 (by decide) ?_
      refine z_lv [] [] rfl ?_
      exact zb_X1_cellOfShort_26 hE hf
  · refine z_ldc2 mw_22_12 dX1_cellOfShort_7 ?_
    cases hf
    exact z_lreturn hE rfl dX1_cellOfShort_10
set_option maxRecDepth 20000 in
theorem le_X11_reading_48 {N : Nat} {r : Int32 × AS}  {t0 : Int32} {s : AS} (hf : f_X11_reading_48 N t0 s = some r) : Le s r.2 := by
  unfold f_X11_reading_48 at hf
  cases hf
  exact Le.rf
set_option maxRecDepth 20000 in
theorem zb_X11_reading_48 {N : Nat} {r : Int32 × AS} {E : EV} (hE : TG E (some (.int r.1)) r.2)  {t0 : Int32} {s : AS} (hf : f_X11_reading_48 N t0 s = some r) : Z E yX11_reading cX11_reading 4 (some .int) 7 s 48 [] [.int t0] := by
  unfold f_X11_reading_48 at hf
  cases hf
  exact z_ireturn hE rfl dX11_reading_48
set_option maxRecDepth 20000 in
theorem le_X11_reading_45 {N : Nat} {r : Int32 × AS}  {t0 : Nat} {t1 : Int32} {t2 : Int32} {t3 : Int64} {s : AS} (hf : f_X11_reading_45 N t0 t1 t2 t3 s = some r) : Le s r.2 := by
  unfold f_X11_reading_45 at hf
  obtain ⟨v8, ev8, hf⟩ := ob hf
  refine Le.of (t := (s.1, s.2)) rfl ((lm_X11_note ev8).tr ?_)
  exact Le.via (le_X11_reading_48 hf) rfl
set_option maxRecDepth 20000 in
theorem zb_X11_reading_45 {N : Nat} {r : Int32 × AS} {E : EV} (hE : TG E (some (.int r.1)) r.2)  {t0 : Nat} {t1 : Int32} {t2 : Int32} {t3 : Int64} {s : AS} (hf : f_X11_reading_45 N t0 t1 t2 t3 s = some r) : Z E yX11_reading cX11_reading 4 (some .int) 7 s 45 [] [.long t3, .int t2, .int t1, .ref t0] := by
  unfold f_X11_reading_45 at hf
  obtain ⟨v8, ev8, hf⟩ := ob hf
  refine z_cVi (ci := 11) (T := TX11) (N := 14) (As := [.int t1, .int t2, .long t3]) (rest := []) (zm_X11_note ev8).2 (zm_X11_note ev8).1 (by decide) rfl (Or.inr (tg_le hE (le_X11_reading_48 hf))) mw_22_14 mw_22_15 mw_22_16 mw_1_2 mw_22_17 yk_X11_note (by decide) (by decide) rfl (Nat.le_of_ble_eq_true rfl) rfl dX11_reading_45 ?_
  exact zb_X11_reading_48 hE hf
set_option maxRecDepth 20000 in
theorem lm_X11_reading {N : Nat} {s : AS} {l0 : Nat} {l1 : Int32} {l2 : Int32} {l3 : Int32} {r : Int32 × AS} (hf : f_X11_reading N l0 l1 l2 l3 s = some r) : Le s r.2 := by
  unfold f_X11_reading at hf
  split at hf
  · skip
    obtain ⟨v1, -, hf⟩ := ob hf
    obtain ⟨v2, -, hf⟩ := ob hf
    obtain ⟨v3, -, hf⟩ := ob hf
    split at hf
    · obtain ⟨v4, -, hf⟩ := ob hf
      obtain ⟨v5, -, hf⟩ := ob hf
      split at hf
      · exact Le.via (le_X11_reading_45 hf) rfl
      · obtain ⟨v6, -, hf⟩ := ob hf
        exact Le.via (le_X11_reading_45 hf) rfl
    · obtain ⟨v7, -, hf⟩ := ob hf
      cases hf
      exact Le.rf
  · cases hf
set_option maxRecDepth 20000 in
theorem zm_X11_reading {N : Nat} {s : AS} {l0 : Nat} {l1 : Int32} {l2 : Int32} {l3 : Int32} {r : Int32 × AS} (hf : f_X11_reading N l0 l1 l2 l3 s = some r) : isO s.1 l0 11 ∧ ∀ (l : Launch) (G : GG), Mt l G yX11_reading cX11_reading 4 (some .int) 7 [.ref l0, .int l1, .int l2, .int l3] s (some (.int r.1)) r.2 := by
  have hf0 := hf
  unfold f_X11_reading at hf
  split at hf
  · rename_i hO
    refine ⟨hO, fun l G => mt_of (Or.inl (by decide)) (Nat.le_of_ble_eq_true rfl) (lm_X11_reading hf0) (fun E hE => ?_)⟩
    show Z E yX11_reading cX11_reading 4 (some .int) 7 s 0 [(0, .ref l0), (1, .int l1), (2, .int l2), (3, .int l3)] []
    refine z_aload_n 0 dX11_reading_0 rfl rfl ?_
    refine z_gP (ci := 11) (k := 1) (C := RX11) (T := TX11) (N := 14) rfl inlX11 (by decide) mw_1_19 (fun _ _ _ _ h9 => h9) hf (by decide) rfl dX11_reading_1  (fun v1 hf => ?_)
    refine z_gP (ci := 1) (k := 2) (C := RX1) (T := TX1) (N := 8) rfl inlX1 (by decide) mw_19_21 (fun _ _ _ _ h9 => h9) hf (by decide) rfl dX11_reading_4  (fun v2 hf => ?_)
    refine z_iload_n 1 dX11_reading_7 rfl rfl ?_
    obtain ⟨v3, ev3, hf⟩ := ob hf
    refine z_cVi (ci := 8) (T := TX8) (N := 2) (As := [.int l1]) (rest := []) (zm_X8_has ev3).2 (zm_X8_has ev3).1 (by decide) rfl (Or.inl rfl) mw_13_22 mw_13_23 mw_14_0 mw_3_13 mw_14_1 yk_X8_has (by decide) (by decide) rfl (Nat.le_of_ble_eq_true rfl) rfl dX11_reading_8 ?_
    refine z_if_ne 21 hf dX11_reading_11 (by decide) (fun hf => ?_) (fun hf => ?_)
    · refine z_aload_n 0 dX11_reading_21 rfl rfl ?_
      refine z_iload_n 1 dX11_reading_22 rfl rfl ?_
      refine z_iload_n 2 dX11_reading_23 rfl rfl ?_
      refine z_aload_n 0 dX11_reading_24 rfl rfl ?_
      refine z_gP (ci := 11) (k := 1) (C := RX11) (T := TX11) (N := 14) rfl inlX11 (by decide) mw_1_19 (fun _ _ _ _ h9 => h9) hf (by decide) rfl dX11_reading_25  (fun v4 hf => ?_)
      refine z_iload_n 1 dX11_reading_28 rfl rfl ?_
      obtain ⟨v5, ev5, hf⟩ := ob hf
      refine z_cVi (ci := 1) (T := TX1) (N := 8) (As := [.int l1]) (rest := [.int l2, .int l1, .ref l0]) (zm_X1_isOfShorts ev5).2 (zm_X1_isOfShorts ev5).1 (by decide) rfl (Or.inl rfl) mw_22_5 mw_22_6 mw_22_7 mw_1_18 mw_22_8 yk_X1_isOfShorts (by decide) (by decide) rfl (Nat.le_of_ble_eq_true rfl) rfl dX11_reading_29 ?_
      refine z_if_eq 43 hf dX11_reading_32 (by decide) (fun hf => ?_) (fun hf => ?_)
      · refine z_iload_n 3 dX11_reading_43 rfl rfl ?_
        refine z_i2l dX11_reading_44 ?_
        refine z_lv [] [] rfl ?_
        exact zb_X11_reading_45 hE hf
      · refine z_iload_n 3 dX11_reading_35 rfl rfl ?_
        refine z_i2s dX11_reading_36 ?_
        obtain ⟨v6, ev6, hf⟩ := ob hf
        refine z_cTl (As := [.int l3.toInt16.toInt32]) (rest := [.int l2, .int l1, .ref l0]) (zm_X1_cellOfShort ev6) (Or.inl rfl) mw_22_9 mw_22_10 mw_1_18 mw_22_11 yk_X1_cellOfShort (by decide) (by decide) rfl (Nat.le_of_ble_eq_true rfl) rfl dX11_reading_37 ?_
        refine z_goto 45 dX11_reading_40 (by decide) ?_
        refine z_lv [] [] rfl ?_
        exact zb_X11_reading_45 hE hf
    · refine z_aload_n 0 dX11_reading_14 rfl rfl ?_
      refine z_bipush (-2) (-2) dX11_reading_15 (by decide) ?_
      obtain ⟨v7, ev7, hf⟩ := ob hf
      refine z_cVi (ci := 11) (T := TX11) (N := 14) (As := [.int (-2 : Int32)]) (rest := []) (zm_X11_refuse ev7).2 (zm_X11_refuse ev7).1 (by decide) rfl (Or.inl rfl) mw_7_22 mw_7_23 mw_8_0 mw_1_2 mw_8_1 yk_X11_refuse (by decide) (by decide) rfl (Nat.le_of_ble_eq_true rfl) rfl dX11_reading_17 ?_
      cases hf
      exact z_ireturn hE rfl dX11_reading_20
  · cases hf
set_option maxRecDepth 20000 in
theorem zb_X5_begin_137 {N : Nat} {sh : Sh} {r : Dt} {E : EV} (hE : TG E none (sh, r))   {d : Dt} (hf : f_X5_begin_137 N sh  d = some r) : Z E yX5_begin cX5_begin 3 none 3 (sh, d) 137 [] [] := by
  unfold f_X5_begin_137 at hf
  cases hf
  exact z_return hE rfl dX5_begin_137
set_option maxRecDepth 20000 in
theorem zg_X5_begin_59 {N : Nat} {sh : Sh} {r : Dt} {k59 : Nat → Int32 → Dt → Option Dt} {E : EV} (hE : TG E none (sh, r))  (hk59 : ∀ (l0 : Nat) (l2 : Int32) (d : Dt), k59 l0 l2 d = some r → Z E yX5_begin cX5_begin 3 none 3 (sh, d) 59 [(0, .ref l0), (2, .int l2)] []) {l0 : Nat} {l2 : Int32} {d : Dt} (hf : g_X5_begin_59 N sh k59 l0 l2 d = some r) : Z E yX5_begin cX5_begin 3 none 3 (sh, d) 59 [(0, .ref l0), (2, .int l2)] [] := by
  unfold g_X5_begin_59 at hf
  refine z_iload_n 1 dX5_begin_59 rfl rfl ?_
  refine z_aload_n 0 dX5_begin_60 rfl rfl ?_
  refine z_gI (ci := 5) (k := 8) (C := RX5) (T := TX5) (N := 13) rfl inlX5 (by decide) mw_5_23 (fun _ _ _ _ h9 => h9) hf (by decide) rfl dX5_begin_61  (fun v14 hf => ?_)
  refine z_icmp_ge 137 hf dX5_begin_64 (by decide) (fun hf => ?_) (fun hf => ?_)
  · refine z_lv [] [] rfl ?_
    exact zb_X5_begin_137 hE hf
  · refine z_aload_n 0 dX5_begin_67 rfl rfl ?_
    refine z_gP (ci := 5) (k := 6) (C := RX5) (T := TX5) (N := 13) rfl inlX5 (by decide) mw_5_21 (fun _ _ _ _ h9 => h9) hf (by decide) rfl dX5_begin_68  (fun v15 hf => ?_)
    refine z_iload_n 1 dX5_begin_71 rfl rfl ?_
    refine z_aload_n 0 dX5_begin_72 rfl rfl ?_
    refine z_gP (ci := 5) (k := 0) (C := RX5) (T := TX5) (N := 13) rfl inlX5 (by decide) mw_6_4 (fun _ _ _ _ h9 => h9) hf (by decide) rfl dX5_begin_73  (fun v16 hf => ?_)
    refine z_gP (ci := 1) (k := 1) (C := RX1) (T := TX1) (N := 8) rfl inlX1 (by decide) mw_43_17 (fun _ _ _ _ h9 => h9) hf (by decide) rfl dX5_begin_76  (fun v17 hf => ?_)
    refine z_iload_n 1 dX5_begin_79 rfl rfl ?_
    refine z_bipush 7 7 dX5_begin_80 (by decide) ?_
    obtain ⟨v18, ev18, hf⟩ := ob hf
    refine z_cVi (ci := 8) (T := TX8) (N := 2) (As := [.int l2, .int (7 : Int32)]) (rest := [.int l2, .ref v15]) (zm_X8_get ev18).2 (zm_X8_get ev18).1 (by decide) rfl (Or.inl rfl) mw_43_20 mw_10_11 mw_10_12 mw_3_13 mw_10_13 yk_X8_get (by decide) (by decide) rfl (Nat.le_of_ble_eq_true rfl) rfl dX5_begin_82 ?_
    refine z_sI hf dX5_begin_85  (fun d19 hf => ?_)
    refine z_aload_n 0 dX5_begin_86 rfl rfl ?_
    refine z_gP (ci := 5) (k := 7) (C := RX5) (T := TX5) (N := 13) rfl inlX5 (by decide) mw_5_22 (fun _ _ _ _ h9 => h9) hf (by decide) rfl dX5_begin_87  (fun v20 hf => ?_)
    refine z_iload_n 1 dX5_begin_90 rfl rfl ?_
    refine z_aload_n 0 dX5_begin_91 rfl rfl ?_
    refine z_gP (ci := 5) (k := 0) (C := RX5) (T := TX5) (N := 13) rfl inlX5 (by decide) mw_6_4 (fun _ _ _ _ h9 => h9) hf (by decide) rfl dX5_begin_92  (fun v21 hf => ?_)
    refine z_gP (ci := 1) (k := 1) (C := RX1) (T := TX1) (N := 8) rfl inlX1 (by decide) mw_43_17 (fun _ _ _ _ h9 => h9) hf (by decide) rfl dX5_begin_95  (fun v22 hf => ?_)
    refine z_iload_n 1 dX5_begin_98 rfl rfl ?_
    refine z_bipush 8 8 dX5_begin_99 (by decide) ?_
    obtain ⟨v23, ev23, hf⟩ := ob hf
    refine z_cVi (ci := 8) (T := TX8) (N := 2) (As := [.int l2, .int (8 : Int32)]) (rest := [.int l2, .ref v20]) (zm_X8_get ev23).2 (zm_X8_get ev23).1 (by decide) rfl (Or.inl rfl) mw_43_20 mw_10_11 mw_10_12 mw_3_13 mw_10_13 yk_X8_get (by decide) (by decide) rfl (Nat.le_of_ble_eq_true rfl) rfl dX5_begin_101 ?_
    refine z_sI hf dX5_begin_104  (fun d24 hf => ?_)
    refine z_aload_n 0 dX5_begin_105 rfl rfl ?_
    refine z_gP (ci := 5) (k := 10) (C := RX5) (T := TX5) (N := 13) rfl inlX5 (by decide) mw_6_1 (fun _ _ _ _ h9 => h9) hf (by decide) rfl dX5_begin_106  (fun v25 hf => ?_)
    refine z_iload_n 1 dX5_begin_109 rfl rfl ?_
    refine z_aload_n 0 dX5_begin_110 rfl rfl ?_
    refine z_gP (ci := 5) (k := 0) (C := RX5) (T := TX5) (N := 13) rfl inlX5 (by decide) mw_6_4 (fun _ _ _ _ h9 => h9) hf (by decide) rfl dX5_begin_111  (fun v26 hf => ?_)
    refine z_iload_n 1 dX5_begin_114 rfl rfl ?_
    obtain ⟨v27, ev27, hf⟩ := ob hf
    refine z_cVi (ci := 1) (T := TX1) (N := 8) (As := [.int l2]) (rest := [.int l2, .ref v25]) (zm_X1_sidesDue ev27).2 (zm_X1_sidesDue ev27).1 (by decide) rfl (Or.inl rfl) mw_43_21 mw_39_20 mw_39_21 mw_1_18 mw_39_22 yk_X1_sidesDue (by decide) (by decide) rfl (Nat.le_of_ble_eq_true rfl) rfl dX5_begin_115 ?_
    refine z_sI hf dX5_begin_118  (fun d28 hf => ?_)
    refine z_aload_n 0 dX5_begin_119 rfl rfl ?_
    refine z_gP (ci := 5) (k := 9) (C := RX5) (T := TX5) (N := 13) rfl inlX5 (by decide) mw_6_0 (fun _ _ _ _ h9 => h9) hf (by decide) rfl dX5_begin_120  (fun v29 hf => ?_)
    refine z_iload_n 1 dX5_begin_123 rfl rfl ?_
    refine z_aload_n 0 dX5_begin_124 rfl rfl ?_
    refine z_gP (ci := 5) (k := 10) (C := RX5) (T := TX5) (N := 13) rfl inlX5 (by decide) mw_6_1 (fun _ _ _ _ h9 => h9) hf (by decide) rfl dX5_begin_125  (fun v30 hf => ?_)
    refine z_iload_n 1 dX5_begin_128 rfl rfl ?_
    refine z_aI hf dX5_begin_129  (fun v31 hf => ?_)
    refine z_sI hf dX5_begin_130  (fun d32 hf => ?_)
    refine z_iinc [(2, .int (l2 + 1)), (0, .ref l0)] 1 (l2 + 1) dX5_begin_131 rfl rfl (by decide) rfl ?_
    refine z_goto 59 dX5_begin_134 (by decide) ?_
    refine z_lv [(0, .ref l0), (2, .int (l2 + 1))] [1, 0] rfl ?_
    exact hk59 _ _ _ hf
set_option maxRecDepth 20000 in
theorem zb_X5_begin_59 {N : Nat} {sh : Sh} {r : Dt} {E : EV} (hE : TG E none (sh, r))  : ∀ (n : Nat) (l0 : Nat) (l2 : Int32) (d : Dt), f_X5_begin_59 N sh n l0 l2 d = some r → Z E yX5_begin cX5_begin 3 none 3 (sh, d) 59 [(0, .ref l0), (2, .int l2)] [] := by
  intro n
  induction n with
  | zero => intro l0 l2 d hf; cases hf
  | succ n ih => intro l0 l2 d hf; exact zg_X5_begin_59 hE ih hf
set_option maxRecDepth 20000 in
theorem zm_X5_begin {N : Nat} {sh : Sh} {d : Dt} {l0 : Nat} {l1 : Int32} {r : Dt} (hf : f_X5_begin N sh l0 l1 d = some r) : isO sh l0 5 ∧ ∀ (l : Launch) (G : GG), Mt l G yX5_begin cX5_begin 3 none 3 [.ref l0, .int l1] (sh, d) none (sh, r) := by
  have hf0 := hf
  unfold f_X5_begin at hf
  split at hf
  · rename_i hO
    refine ⟨hO, fun l G => mt_of (Or.inl (by decide)) (Nat.le_of_ble_eq_true rfl) Le.rf (fun E hE => ?_)⟩
    show Z E yX5_begin cX5_begin 3 none 3 (sh, d) 0 [(0, .ref l0), (1, .int l1)] []
    refine z_aload_n 0 dX5_begin_0 rfl rfl ?_
    refine z_gP (ci := 5) (k := 3) (C := RX5) (T := TX5) (N := 13) rfl inlX5 (by decide) mw_5_18 (fun _ _ _ _ h9 => h9) hf (by decide) rfl dX5_begin_1  (fun v1 hf => ?_)
    refine z_iconst 0 0 dX5_begin_4 (by decide) ?_
    refine z_pI (ci := 8) (k := 1) (C := RX8) (T := TX8) (N := 2) rfl inlX8 (by decide) mw_43_16 (fun _ _ _ _ h9 => h9) tyX8 tyX8_ok nmX8 rfl hf (Or.inl (by decide)) rfl rfl rfl dX5_begin_5  (fun d2 hf => ?_)
    refine z_aload_n 0 dX5_begin_8 rfl rfl ?_
    refine z_iconst 0 0 dX5_begin_9 (by decide) ?_
    refine z_pI (ci := 5) (k := 12) (C := RX5) (T := TX5) (N := 13) rfl inlX5 (by decide) mw_6_3 (fun _ _ _ _ h9 => h9) tyX5 tyX5_ok nmX5 rfl hf (Or.inl (by decide)) rfl rfl rfl dX5_begin_10  (fun d3 hf => ?_)
    refine z_aload_n 0 dX5_begin_13 rfl rfl ?_
    refine z_gP (ci := 5) (k := 4) (C := RX5) (T := TX5) (N := 13) rfl inlX5 (by decide) mw_5_19 (fun _ _ _ _ h9 => h9) hf (by decide) rfl dX5_begin_14  (fun v4 hf => ?_)
    refine z_iconst 0 0 dX5_begin_17 (by decide) ?_
    obtain ⟨v5, ev5, hf⟩ := ob hf
    refine z_cTv (As := [.ref v4, .int (0 : Int32)]) (rest := []) (zm_J7_fill_53178 ev5) (Or.inl rfl) mw_43_19 mw_4_6 mw_4_7 mw_4_8 yk_J7_fill_53178 (by decide) (by decide) rfl (Nat.le_of_ble_eq_true rfl) rfl dX5_begin_18 ?_
    refine z_aload_n 0 dX5_begin_21 rfl rfl ?_
    refine z_gP (ci := 5) (k := 4) (C := RX5) (T := TX5) (N := 13) rfl inlX5 (by decide) mw_5_19 (fun _ _ _ _ h9 => h9) hf (by decide) rfl dX5_begin_22  (fun v6 hf => ?_)
    refine z_bipush 6 6 dX5_begin_25 (by decide) ?_
    refine z_iload_n 1 dX5_begin_27 rfl rfl ?_
    refine z_sI hf dX5_begin_28  (fun d7 hf => ?_)
    refine z_aload_n 0 dX5_begin_29 rfl rfl ?_
    refine z_gP (ci := 5) (k := 5) (C := RX5) (T := TX5) (N := 13) rfl inlX5 (by decide) mw_5_20 (fun _ _ _ _ h9 => h9) hf (by decide) rfl dX5_begin_30  (fun v8 hf => ?_)
    refine z_iconst (-1) (-1) dX5_begin_33 (by decide) ?_
    obtain ⟨v9, ev9, hf⟩ := ob hf
    refine z_cTv (As := [.ref v8, .int (-1 : Int32)]) (rest := []) (zm_J7_fill_53178 ev9) (Or.inl rfl) mw_43_19 mw_4_6 mw_4_7 mw_4_8 yk_J7_fill_53178 (by decide) (by decide) rfl (Nat.le_of_ble_eq_true rfl) rfl dX5_begin_34 ?_
    refine z_aload_n 0 dX5_begin_37 rfl rfl ?_
    refine z_aload_n 0 dX5_begin_38 rfl rfl ?_
    refine z_gP (ci := 5) (k := 0) (C := RX5) (T := TX5) (N := 13) rfl inlX5 (by decide) mw_6_4 (fun _ _ _ _ h9 => h9) hf (by decide) rfl dX5_begin_39  (fun v10 hf => ?_)
    refine z_gP (ci := 1) (k := 1) (C := RX1) (T := TX1) (N := 8) rfl inlX1 (by decide) mw_43_17 (fun _ _ _ _ h9 => h9) hf (by decide) rfl dX5_begin_42  (fun v11 hf => ?_)
    refine z_gI (ci := 8) (k := 1) (C := RX8) (T := TX8) (N := 2) rfl inlX8 (by decide) mw_43_16 (fun _ _ _ _ h9 => h9) hf (by decide) rfl dX5_begin_45  (fun v12 hf => ?_)
    refine z_sipush 150 150 dX5_begin_48 (by decide) ?_
    refine z_min mw_43_18 mw_9_20 mw_8_22 mw_9_21 (by decide) (Nat.le_of_ble_eq_true rfl) dX5_begin_51 ?_
    refine z_pI (ci := 5) (k := 8) (C := RX5) (T := TX5) (N := 13) rfl inlX5 (by decide) mw_5_23 (fun _ _ _ _ h9 => h9) tyX5 tyX5_ok nmX5 rfl hf (Or.inl (by decide)) rfl rfl rfl dX5_begin_54  (fun d13 hf => ?_)
    refine z_iconst 0 0 dX5_begin_57 (by decide) ?_
    refine z_istore_n [(2, .int (0 : Int32)), (0, .ref l0), (1, .int l1)] dX5_begin_58 rfl (by decide) rfl ?_
    refine z_lv [(0, .ref l0), (2, .int (0 : Int32))] [1, 0] rfl ?_
    exact zb_X5_begin_59 hE N _ _ _ hf
  · cases hf
set_option maxRecDepth 20000 in
theorem zb_X5_lookAtLeft_91 {N : Nat} {sh : Sh} {r : Int64 × Dt} {E : EV} (hE : TG E (some (.long r.1)) (sh, r.2))  {l1 : Int64} {d : Dt} (hf : f_X5_lookAtLeft_91 N sh l1 d = some r) : Z E yX5_lookAtLeft cX5_lookAtLeft 6 (some .long) 2 (sh, d) 91 [(1, .long l1)] [] := by
  unfold f_X5_lookAtLeft_91 at hf
  refine z_lload_n 0 dX5_lookAtLeft_91 rfl rfl ?_
  cases hf
  exact z_lreturn hE rfl dX5_lookAtLeft_92
set_option maxRecDepth 20000 in
theorem zb_X5_lookAtLeft_85 {N : Nat} {sh : Sh} {k12 : Nat → Int64 → Int32 → Dt → Option (Int64 × Dt)} {r : Int64 × Dt} {E : EV} (hE : TG E (some (.long r.1)) (sh, r.2)) (hk12 : ∀ (l0 : Nat) (l1 : Int64) (l3 : Int32) (d : Dt), k12 l0 l1 l3 d = some r → Z E yX5_lookAtLeft cX5_lookAtLeft 6 (some .long) 2 (sh, d) 12 [(0, .ref l0), (1, .long l1), (3, .int l3)] []) {l0 : Nat} {l1 : Int64} {l3 : Int32} {d : Dt} (hf : f_X5_lookAtLeft_85 N sh k12 l0 l1 l3 d = some r) : Z E yX5_lookAtLeft cX5_lookAtLeft 6 (some .long) 2 (sh, d) 85 [(0, .ref l0), (1, .long l1), (3, .int l3)] [] := by
  unfold f_X5_lookAtLeft_85 at hf
  refine z_iinc [(3, .int (l3 + 1)), (0, .ref l0), (1, .long l1)] 2 (l3 + 1) dX5_lookAtLeft_85 rfl rfl (by decide) rfl ?_
  refine z_goto 12 dX5_lookAtLeft_88 (by decide) ?_
  refine z_lv [(0, .ref l0), (1, .long l1), (3, .int (l3 + 1))] [1, 2, 0] rfl ?_
  exact hk12 _ _ _ _ hf
set_option maxRecDepth 20000 in
theorem zg_X5_lookAtLeft_12 {N : Nat} {sh : Sh} {r : Int64 × Dt} {k12 : Nat → Int64 → Int32 → Dt → Option (Int64 × Dt)} {E : EV} (hE : TG E (some (.long r.1)) (sh, r.2))  (hk12 : ∀ (l0 : Nat) (l1 : Int64) (l3 : Int32) (d : Dt), k12 l0 l1 l3 d = some r → Z E yX5_lookAtLeft cX5_lookAtLeft 6 (some .long) 2 (sh, d) 12 [(0, .ref l0), (1, .long l1), (3, .int l3)] []) {l0 : Nat} {l1 : Int64} {l3 : Int32} {d : Dt} (hf : g_X5_lookAtLeft_12 N sh k12 l0 l1 l3 d = some r) : Z E yX5_lookAtLeft cX5_lookAtLeft 6 (some .long) 2 (sh, d) 12 [(0, .ref l0), (1, .long l1), (3, .int l3)] [] := by
  unfold g_X5_lookAtLeft_12 at hf
  refine z_iload_n 2 dX5_lookAtLeft_12 rfl rfl ?_
  refine z_aload_n 0 dX5_lookAtLeft_13 rfl rfl ?_
  refine z_gI (ci := 5) (k := 8) (C := RX5) (T := TX5) (N := 13) rfl inlX5 (by decide) mw_5_23 (fun _ _ _ _ h9 => h9) hf (by decide) rfl dX5_lookAtLeft_14  (fun v3 hf => ?_)
  refine z_icmp_ge 91 hf dX5_lookAtLeft_17 (by decide) (fun hf => ?_) (fun hf => ?_)
  · refine z_lv [(1, .long l1)] [1] rfl ?_
    exact zb_X5_lookAtLeft_91 hE hf
  · refine z_aload_n 0 dX5_lookAtLeft_20 rfl rfl ?_
    refine z_gP (ci := 5) (k := 9) (C := RX5) (T := TX5) (N := 13) rfl inlX5 (by decide) mw_6_0 (fun _ _ _ _ h9 => h9) hf (by decide) rfl dX5_lookAtLeft_21  (fun v4 hf => ?_)
    refine z_iload_n 2 dX5_lookAtLeft_24 rfl rfl ?_
    refine z_aI hf dX5_lookAtLeft_25  (fun v5 hf => ?_)
    refine z_if_le 85 hf dX5_lookAtLeft_26 (by decide) (fun hf => ?_) (fun hf => ?_)
    · exact zb_X5_lookAtLeft_85 hE hk12 hf
    · refine z_aload_n 0 dX5_lookAtLeft_29 rfl rfl ?_
      refine z_gP (ci := 5) (k := 6) (C := RX5) (T := TX5) (N := 13) rfl inlX5 (by decide) mw_5_21 (fun _ _ _ _ h9 => h9) hf (by decide) rfl dX5_lookAtLeft_30  (fun v6 hf => ?_)
      refine z_iload_n 2 dX5_lookAtLeft_33 rfl rfl ?_
      refine z_aI hf dX5_lookAtLeft_34  (fun v7 hf => ?_)
      refine z_istore [(4, .int v7), (0, .ref l0), (1, .long l1), (3, .int l3)] dX5_lookAtLeft_35 (by decide) rfl ?_
      refine z_aload_n 1 dX5_lookAtLeft_37 rfl rfl ?_
      refine z_gP (ci := 5) (k := 7) (C := RX5) (T := TX5) (N := 13) rfl inlX5 (by decide) mw_5_22 (fun _ _ _ _ h9 => h9) hf (by decide) rfl dX5_lookAtLeft_38  (fun v8 hf => ?_)
      refine z_iload_n 3 dX5_lookAtLeft_41 rfl rfl ?_
      refine z_aI hf dX5_lookAtLeft_42  (fun v9 hf => ?_)
      refine z_istore [(5, .int v9), (4, .int v7), (0, .ref l0), (1, .long l1), (3, .int l3)] dX5_lookAtLeft_43 (by decide) rfl ?_
      refine z_aload_n 2 dX5_lookAtLeft_45 rfl rfl ?_
      refine z_gP (ci := 5) (k := 11) (C := RX5) (T := TX5) (N := 13) rfl inlX5 (by decide) mw_6_2 (fun _ _ _ _ h9 => h9) hf (by decide) rfl dX5_lookAtLeft_46  (fun v10 hf => ?_)
      refine z_iload 1 dX5_lookAtLeft_49 rfl ?_
      refine z_dup2_11 dX5_lookAtLeft_51 rfl rfl ?_
      refine z_aJ hf dX5_lookAtLeft_52  (fun v11 hf => ?_)
      refine z_lconst 1 1 dX5_lookAtLeft_53 (by decide) ?_
      refine z_iload 0 dX5_lookAtLeft_54 rfl ?_
      refine z_lshl dX5_lookAtLeft_56 ?_
      refine z_lor dX5_lookAtLeft_57 ?_
      refine z_sJ hf dX5_lookAtLeft_58  (fun d12 hf => ?_)
      refine z_aload_n 2 dX5_lookAtLeft_59 rfl rfl ?_
      refine z_gP (ci := 5) (k := 11) (C := RX5) (T := TX5) (N := 13) rfl inlX5 (by decide) mw_6_2 (fun _ _ _ _ h9 => h9) hf (by decide) rfl dX5_lookAtLeft_60  (fun v13 hf => ?_)
      refine z_iload 0 dX5_lookAtLeft_63 rfl ?_
      refine z_dup2_11 dX5_lookAtLeft_65 rfl rfl ?_
      refine z_aJ hf dX5_lookAtLeft_66  (fun v14 hf => ?_)
      refine z_lconst 1 1 dX5_lookAtLeft_67 (by decide) ?_
      refine z_iload 1 dX5_lookAtLeft_68 rfl ?_
      refine z_lshl dX5_lookAtLeft_70 ?_
      refine z_lor dX5_lookAtLeft_71 ?_
      refine z_sJ hf dX5_lookAtLeft_72  (fun d15 hf => ?_)
      refine z_lload_n 3 dX5_lookAtLeft_73 rfl rfl ?_
      refine z_lconst 1 1 dX5_lookAtLeft_74 (by decide) ?_
      refine z_iload 1 dX5_lookAtLeft_75 rfl ?_
      refine z_lshl dX5_lookAtLeft_77 ?_
      refine z_lconst 1 1 dX5_lookAtLeft_78 (by decide) ?_
      refine z_iload 0 dX5_lookAtLeft_79 rfl ?_
      refine z_lshl dX5_lookAtLeft_81 ?_
      refine z_lor dX5_lookAtLeft_82 ?_
      refine z_lor dX5_lookAtLeft_83 ?_
      refine z_lstore_n [(1, .long (l1 ||| (((1 : Int64) <<< (v7.toInt64 &&& 63)) ||| ((1 : Int64) <<< (v9.toInt64 &&& 63))))), (5, .int v9), (4, .int v7), (0, .ref l0), (3, .int l3)] dX5_lookAtLeft_84 rfl (by decide) rfl ?_
      refine z_lv [(0, .ref l0), (1, .long (l1 ||| (((1 : Int64) <<< (v7.toInt64 &&& 63)) ||| ((1 : Int64) <<< (v9.toInt64 &&& 63))))), (3, .int l3)] [3, 0, 4] rfl ?_
      exact zb_X5_lookAtLeft_85 hE hk12 hf
set_option maxRecDepth 20000 in
theorem zb_X5_lookAtLeft_12 {N : Nat} {sh : Sh} {r : Int64 × Dt} {E : EV} (hE : TG E (some (.long r.1)) (sh, r.2))  : ∀ (n : Nat) (l0 : Nat) (l1 : Int64) (l3 : Int32) (d : Dt), f_X5_lookAtLeft_12 N sh n l0 l1 l3 d = some r → Z E yX5_lookAtLeft cX5_lookAtLeft 6 (some .long) 2 (sh, d) 12 [(0, .ref l0), (1, .long l1), (3, .int l3)] [] := by
  intro n
  induction n with
  | zero => intro l0 l1 l3 d hf; cases hf
  | succ n ih => intro l0 l1 l3 d hf; exact zg_X5_lookAtLeft_12 hE ih hf
set_option maxRecDepth 20000 in
theorem zm_X5_lookAtLeft {N : Nat} {sh : Sh} {d : Dt} {l0 : Nat} {r : Int64 × Dt} (hf : f_X5_lookAtLeft N sh l0 d = some r) : isO sh l0 5 ∧ ∀ (l : Launch) (G : GG), Mt l G yX5_lookAtLeft cX5_lookAtLeft 6 (some .long) 2 [.ref l0] (sh, d) (some (.long r.1)) (sh, r.2) := by
  have hf0 := hf
  unfold f_X5_lookAtLeft at hf
  split at hf
  · rename_i hO
    refine ⟨hO, fun l G => mt_of (Or.inl (by decide)) (Nat.le_of_ble_eq_true rfl) Le.rf (fun E hE => ?_)⟩
    show Z E yX5_lookAtLeft cX5_lookAtLeft 6 (some .long) 2 (sh, d) 0 [(0, .ref l0)] []
    refine z_lconst 0 0 dX5_lookAtLeft_0 (by decide) ?_
    refine z_lstore_n [(1, .long (0 : Int64)), (0, .ref l0)] dX5_lookAtLeft_1 rfl (by decide) rfl ?_
    refine z_aload_n 1 dX5_lookAtLeft_2 rfl rfl ?_
    refine z_gP (ci := 5) (k := 11) (C := RX5) (T := TX5) (N := 13) rfl inlX5 (by decide) mw_6_2 (fun _ _ _ _ h9 => h9) hf (by decide) rfl dX5_lookAtLeft_3  (fun v1 hf => ?_)
    refine z_lconst 0 0 dX5_lookAtLeft_6 (by decide) ?_
    obtain ⟨v2, ev2, hf⟩ := ob hf
    refine z_cTv (As := [.ref v1, .long (0 : Int64)]) (rest := []) (zm_J7_fill_d0a16 ev2) (Or.inl rfl) mw_44_2 mw_16_10 mw_4_7 mw_16_11 yk_J7_fill_d0a16 (by decide) (by decide) rfl (Nat.le_of_ble_eq_true rfl) rfl dX5_lookAtLeft_7 ?_
    refine z_iconst 0 0 dX5_lookAtLeft_10 (by decide) ?_
    refine z_istore_n [(3, .int (0 : Int32)), (1, .long (0 : Int64)), (0, .ref l0)] dX5_lookAtLeft_11 rfl (by decide) rfl ?_
    refine z_lv [(0, .ref l0), (1, .long (0 : Int64)), (3, .int (0 : Int32))] [2, 1, 0] rfl ?_
    exact zb_X5_lookAtLeft_12 hE N _ _ _ _ hf
  · cases hf
set_option maxRecDepth 20000 in
theorem zb_X5_nearestStart_154 {N : Nat} {sh : Sh} {d : Dt} {r : Int32} {E : EV} (hE : TG E (some (.int r)) (sh, d))  {l1 : Int32} (hf : f_X5_nearestStart_154 N sh l1 d = some r) : Z E yX5_nearestStart cX5_nearestStart 5 (some .int) 2 (sh, d) 154 [(1, .int l1)] [] := by
  unfold f_X5_nearestStart_154 at hf
  refine z_iload_n 0 dX5_nearestStart_154 rfl rfl ?_
  cases hf
  exact z_ireturn hE rfl dX5_nearestStart_155
set_option maxRecDepth 20000 in
theorem zb_X5_nearestStart_148 {N : Nat} {sh : Sh} {d : Dt} {k7 : Nat → Int32 → Int32 → Int32 → Option Int32} {r : Int32} {E : EV} (hE : TG E (some (.int r)) (sh, d)) (hk7 : ∀ (l0 : Nat) (l1 : Int32) (l2 : Int32) (l3 : Int32), k7 l0 l1 l2 l3 = some r → Z E yX5_nearestStart cX5_nearestStart 5 (some .int) 2 (sh, d) 7 [(0, .ref l0), (1, .int l1), (2, .int l2), (3, .int l3)] []) {l0 : Nat} {l1 : Int32} {l2 : Int32} {l3 : Int32} (hf : f_X5_nearestStart_148 N sh k7 l0 l1 l2 l3 d = some r) : Z E yX5_nearestStart cX5_nearestStart 5 (some .int) 2 (sh, d) 148 [(0, .ref l0), (1, .int l1), (2, .int l2), (3, .int l3)] [] := by
  unfold f_X5_nearestStart_148 at hf
  refine z_iinc [(3, .int (l3 + 1)), (0, .ref l0), (1, .int l1), (2, .int l2)] 3 (l3 + 1) dX5_nearestStart_148 rfl rfl (by decide) rfl ?_
  refine z_goto 7 dX5_nearestStart_151 (by decide) ?_
  refine z_lv [(0, .ref l0), (1, .int l1), (2, .int l2), (3, .int (l3 + 1))] [1, 2, 3, 0] rfl ?_
  exact hk7 _ _ _ _ hf
set_option maxRecDepth 20000 in
theorem zb_X5_nearestStart_87 {N : Nat} {sh : Sh} {d : Dt} {k7 : Nat → Int32 → Int32 → Int32 → Option Int32} {r : Int32} {E : EV} (hE : TG E (some (.int r)) (sh, d)) (hk7 : ∀ (l0 : Nat) (l1 : Int32) (l2 : Int32) (l3 : Int32), k7 l0 l1 l2 l3 = some r → Z E yX5_nearestStart cX5_nearestStart 5 (some .int) 2 (sh, d) 7 [(0, .ref l0), (1, .int l1), (2, .int l2), (3, .int l3)] []) {l0 : Nat} {l1 : Int32} {l2 : Int32} {l3 : Int32} {t0 : Int32} (hf : f_X5_nearestStart_87 N sh k7 l0 l1 l2 l3 t0 d = some r) : Z E yX5_nearestStart cX5_nearestStart 5 (some .int) 2 (sh, d) 87 [(0, .ref l0), (1, .int l1), (2, .int l2), (3, .int l3)] [.int t0] := by
  unfold f_X5_nearestStart_87 at hf
  refine z_istore [(4, .int t0), (0, .ref l0), (1, .int l1), (2, .int l2), (3, .int l3)] dX5_nearestStart_87 (by decide) rfl ?_
  refine z_aload_n 1 dX5_nearestStart_89 rfl rfl ?_
  refine z_gP (ci := 5) (k := 10) (C := RX5) (T := TX5) (N := 13) rfl inlX5 (by decide) mw_6_1 (fun _ _ _ _ h9 => h9) hf (by decide) rfl dX5_nearestStart_90  (fun v17 hf => ?_)
  refine z_iload_n 4 dX5_nearestStart_93 rfl rfl ?_
  refine z_aI hf dX5_nearestStart_94  (fun v18 hf => ?_)
  refine z_if_le 148 hf dX5_nearestStart_95 (by decide) (fun hf => ?_) (fun hf => ?_)
  · refine z_lv [(0, .ref l0), (1, .int l1), (2, .int l2), (3, .int l3)] [1, 2, 3, 4] rfl ?_
    exact zb_X5_nearestStart_148 hE hk7 hf
  · refine z_iload 0 dX5_nearestStart_98 rfl ?_
    refine z_if_eq 148 hf dX5_nearestStart_100 (by decide) (fun hf => ?_) (fun hf => ?_)
    · refine z_lv [(0, .ref l0), (1, .int l1), (2, .int l2), (3, .int l3)] [1, 2, 3, 4] rfl ?_
      exact zb_X5_nearestStart_148 hE hk7 hf
    · refine z_aload_n 1 dX5_nearestStart_103 rfl rfl ?_
      refine z_gP (ci := 5) (k := 1) (C := RX5) (T := TX5) (N := 13) rfl inlX5 (by decide) mw_6_5 (fun _ _ _ _ h9 => h9) hf (by decide) rfl dX5_nearestStart_104  (fun v19 hf => ?_)
      refine z_aload_n 1 dX5_nearestStart_107 rfl rfl ?_
      refine z_gI (ci := 5) (k := 12) (C := RX5) (T := TX5) (N := 13) rfl inlX5 (by decide) mw_6_3 (fun _ _ _ _ h9 => h9) hf (by decide) rfl dX5_nearestStart_108  (fun v20 hf => ?_)
      refine z_aload_n 1 dX5_nearestStart_111 rfl rfl ?_
      refine z_gP (ci := 5) (k := 7) (C := RX5) (T := TX5) (N := 13) rfl inlX5 (by decide) mw_5_22 (fun _ _ _ _ h9 => h9) hf (by decide) rfl dX5_nearestStart_112  (fun v21 hf => ?_)
      refine z_iload_n 4 dX5_nearestStart_115 rfl rfl ?_
      refine z_aI hf dX5_nearestStart_116  (fun v22 hf => ?_)
      obtain ⟨v23, ev23, hf⟩ := ob hf
      refine z_cVi (ci := 10) (T := TX10) (N := 6) (As := [.int v20, .int v22]) (rest := []) (zm_X10_between ev23).2 (zm_X10_between ev23).1 (by decide) rfl (Or.inl rfl) mw_44_9 mw_17_12 mw_17_13 mw_1_23 mw_17_14 yk_X10_between (by decide) (by decide) rfl (Nat.le_of_ble_eq_true rfl) rfl dX5_nearestStart_117 ?_
      refine z_iload_n 3 dX5_nearestStart_120 rfl rfl ?_
      refine z_icmp_ge 148 hf dX5_nearestStart_121 (by decide) (fun hf => ?_) (fun hf => ?_)
      · refine z_lv [(0, .ref l0), (1, .int l1), (2, .int l2), (3, .int l3)] [1, 2, 3, 4] rfl ?_
        exact zb_X5_nearestStart_148 hE hk7 hf
      · refine z_iconst 2 2 dX5_nearestStart_124 (by decide) ?_
        refine z_iload_n 4 dX5_nearestStart_125 rfl rfl ?_
        refine z_imul dX5_nearestStart_126 ?_
        refine z_iconst 1 1 dX5_nearestStart_127 (by decide) ?_
        refine z_iadd dX5_nearestStart_128 ?_
        refine z_istore_n [(1, .int (((2 : Int32) * l3) + (1 : Int32))), (4, .int t0), (0, .ref l0), (2, .int l2), (3, .int l3)] dX5_nearestStart_129 rfl (by decide) rfl ?_
        refine z_aload_n 2 dX5_nearestStart_130 rfl rfl ?_
        refine z_gP (ci := 5) (k := 1) (C := RX5) (T := TX5) (N := 13) rfl inlX5 (by decide) mw_6_5 (fun _ _ _ _ h9 => h9) hf (by decide) rfl dX5_nearestStart_131  (fun v24 hf => ?_)
        refine z_aload_n 2 dX5_nearestStart_134 rfl rfl ?_
        refine z_gI (ci := 5) (k := 12) (C := RX5) (T := TX5) (N := 13) rfl inlX5 (by decide) mw_6_3 (fun _ _ _ _ h9 => h9) hf (by decide) rfl dX5_nearestStart_135  (fun v25 hf => ?_)
        refine z_aload_n 2 dX5_nearestStart_138 rfl rfl ?_
        refine z_gP (ci := 5) (k := 7) (C := RX5) (T := TX5) (N := 13) rfl inlX5 (by decide) mw_5_22 (fun _ _ _ _ h9 => h9) hf (by decide) rfl dX5_nearestStart_139  (fun v26 hf => ?_)
        refine z_iload_n 4 dX5_nearestStart_142 rfl rfl ?_
        refine z_aI hf dX5_nearestStart_143  (fun v27 hf => ?_)
        obtain ⟨v28, ev28, hf⟩ := ob hf
        refine z_cVi (ci := 10) (T := TX10) (N := 6) (As := [.int v25, .int v27]) (rest := []) (zm_X10_between ev28).2 (zm_X10_between ev28).1 (by decide) rfl (Or.inl rfl) mw_44_9 mw_17_12 mw_17_13 mw_1_23 mw_17_14 yk_X10_between (by decide) (by decide) rfl (Nat.le_of_ble_eq_true rfl) rfl dX5_nearestStart_144 ?_
        refine z_istore_n [(2, .int v28), (1, .int (((2 : Int32) * l3) + (1 : Int32))), (4, .int t0), (0, .ref l0), (3, .int l3)] dX5_nearestStart_147 rfl (by decide) rfl ?_
        refine z_lv [(0, .ref l0), (1, .int (((2 : Int32) * l3) + (1 : Int32))), (2, .int v28), (3, .int l3)] [3, 1, 0, 4] rfl ?_
        exact zb_X5_nearestStart_148 hE hk7 hf
set_option maxRecDepth 20000 in
theorem zb_X5_nearestStart_67 {N : Nat} {sh : Sh} {d : Dt} {k7 : Nat → Int32 → Int32 → Int32 → Option Int32} {r : Int32} {E : EV} (hE : TG E (some (.int r)) (sh, d)) (hk7 : ∀ (l0 : Nat) (l1 : Int32) (l2 : Int32) (l3 : Int32), k7 l0 l1 l2 l3 = some r → Z E yX5_nearestStart cX5_nearestStart 5 (some .int) 2 (sh, d) 7 [(0, .ref l0), (1, .int l1), (2, .int l2), (3, .int l3)] []) {l0 : Nat} {l1 : Int32} {l2 : Int32} {l3 : Int32} (hf : f_X5_nearestStart_67 N sh k7 l0 l1 l2 l3 d = some r) : Z E yX5_nearestStart cX5_nearestStart 5 (some .int) 2 (sh, d) 67 [(0, .ref l0), (1, .int l1), (2, .int l2), (3, .int l3)] [] := by
  unfold f_X5_nearestStart_67 at hf
  refine z_aload_n 0 dX5_nearestStart_67 rfl rfl ?_
  refine z_gP (ci := 5) (k := 0) (C := RX5) (T := TX5) (N := 13) rfl inlX5 (by decide) mw_6_4 (fun _ _ _ _ h9 => h9) hf (by decide) rfl dX5_nearestStart_68  (fun v14 hf => ?_)
  refine z_gP (ci := 1) (k := 1) (C := RX1) (T := TX1) (N := 8) rfl inlX1 (by decide) mw_43_17 (fun _ _ _ _ h9 => h9) hf (by decide) rfl dX5_nearestStart_71  (fun v15 hf => ?_)
  refine z_iload_n 3 dX5_nearestStart_74 rfl rfl ?_
  refine z_iconst 5 5 dX5_nearestStart_75 (by decide) ?_
  obtain ⟨v16, ev16, hf⟩ := ob hf
  refine z_cVi (ci := 8) (T := TX8) (N := 2) (As := [.int l3, .int (5 : Int32)]) (rest := []) (zm_X8_get ev16).2 (zm_X8_get ev16).1 (by decide) rfl (Or.inl rfl) mw_43_20 mw_10_11 mw_10_12 mw_3_13 mw_10_13 yk_X8_get (by decide) (by decide) rfl (Nat.le_of_ble_eq_true rfl) rfl dX5_nearestStart_76 ?_
  refine z_if_ne 86 hf dX5_nearestStart_79 (by decide) (fun hf => ?_) (fun hf => ?_)
  · refine z_iconst 0 0 dX5_nearestStart_86 (by decide) ?_
    exact zb_X5_nearestStart_87 hE hk7 hf
  · refine z_iconst 1 1 dX5_nearestStart_82 (by decide) ?_
    refine z_goto 87 dX5_nearestStart_83 (by decide) ?_
    exact zb_X5_nearestStart_87 hE hk7 hf
set_option maxRecDepth 20000 in
theorem zg_X5_nearestStart_7 {N : Nat} {sh : Sh} {d : Dt} {r : Int32} {k7 : Nat → Int32 → Int32 → Int32 → Option Int32} {E : EV} (hE : TG E (some (.int r)) (sh, d))  (hk7 : ∀ (l0 : Nat) (l1 : Int32) (l2 : Int32) (l3 : Int32), k7 l0 l1 l2 l3 = some r → Z E yX5_nearestStart cX5_nearestStart 5 (some .int) 2 (sh, d) 7 [(0, .ref l0), (1, .int l1), (2, .int l2), (3, .int l3)] []) {l0 : Nat} {l1 : Int32} {l2 : Int32} {l3 : Int32} (hf : g_X5_nearestStart_7 N sh k7 l0 l1 l2 l3 d = some r) : Z E yX5_nearestStart cX5_nearestStart 5 (some .int) 2 (sh, d) 7 [(0, .ref l0), (1, .int l1), (2, .int l2), (3, .int l3)] [] := by
  unfold g_X5_nearestStart_7 at hf
  refine z_iload_n 3 dX5_nearestStart_7 rfl rfl ?_
  refine z_aload_n 0 dX5_nearestStart_8 rfl rfl ?_
  refine z_gI (ci := 5) (k := 8) (C := RX5) (T := TX5) (N := 13) rfl inlX5 (by decide) mw_5_23 (fun _ _ _ _ h9 => h9) hf (by decide) rfl dX5_nearestStart_9  (fun v1 hf => ?_)
  refine z_icmp_ge 154 hf dX5_nearestStart_12 (by decide) (fun hf => ?_) (fun hf => ?_)
  · refine z_lv [(1, .int l1)] [1] rfl ?_
    exact zb_X5_nearestStart_154 hE hf
  · refine z_aload_n 0 dX5_nearestStart_15 rfl rfl ?_
    refine z_gP (ci := 5) (k := 10) (C := RX5) (T := TX5) (N := 13) rfl inlX5 (by decide) mw_6_1 (fun _ _ _ _ h9 => h9) hf (by decide) rfl dX5_nearestStart_16  (fun v2 hf => ?_)
    refine z_iload_n 3 dX5_nearestStart_19 rfl rfl ?_
    refine z_aI hf dX5_nearestStart_20  (fun v3 hf => ?_)
    refine z_if_le 67 hf dX5_nearestStart_21 (by decide) (fun hf => ?_) (fun hf => ?_)
    · exact zb_X5_nearestStart_67 hE hk7 hf
    · refine z_aload_n 0 dX5_nearestStart_24 rfl rfl ?_
      refine z_gP (ci := 5) (k := 1) (C := RX5) (T := TX5) (N := 13) rfl inlX5 (by decide) mw_6_5 (fun _ _ _ _ h9 => h9) hf (by decide) rfl dX5_nearestStart_25  (fun v4 hf => ?_)
      refine z_aload_n 0 dX5_nearestStart_28 rfl rfl ?_
      refine z_gI (ci := 5) (k := 12) (C := RX5) (T := TX5) (N := 13) rfl inlX5 (by decide) mw_6_3 (fun _ _ _ _ h9 => h9) hf (by decide) rfl dX5_nearestStart_29  (fun v5 hf => ?_)
      refine z_aload_n 0 dX5_nearestStart_32 rfl rfl ?_
      refine z_gP (ci := 5) (k := 6) (C := RX5) (T := TX5) (N := 13) rfl inlX5 (by decide) mw_5_21 (fun _ _ _ _ h9 => h9) hf (by decide) rfl dX5_nearestStart_33  (fun v6 hf => ?_)
      refine z_iload_n 3 dX5_nearestStart_36 rfl rfl ?_
      refine z_aI hf dX5_nearestStart_37  (fun v7 hf => ?_)
      obtain ⟨v8, ev8, hf⟩ := ob hf
      refine z_cVi (ci := 10) (T := TX10) (N := 6) (As := [.int v5, .int v7]) (rest := []) (zm_X10_between ev8).2 (zm_X10_between ev8).1 (by decide) rfl (Or.inl rfl) mw_44_9 mw_17_12 mw_17_13 mw_1_23 mw_17_14 yk_X10_between (by decide) (by decide) rfl (Nat.le_of_ble_eq_true rfl) rfl dX5_nearestStart_38 ?_
      refine z_iload_n 2 dX5_nearestStart_41 rfl rfl ?_
      refine z_icmp_ge 67 hf dX5_nearestStart_42 (by decide) (fun hf => ?_) (fun hf => ?_)
      · exact zb_X5_nearestStart_67 hE hk7 hf
      · refine z_iconst 2 2 dX5_nearestStart_45 (by decide) ?_
        refine z_iload_n 3 dX5_nearestStart_46 rfl rfl ?_
        refine z_imul dX5_nearestStart_47 ?_
        refine z_istore_n [(1, .int ((2 : Int32) * l3)), (0, .ref l0), (2, .int l2), (3, .int l3)] dX5_nearestStart_48 rfl (by decide) rfl ?_
        refine z_aload_n 1 dX5_nearestStart_49 rfl rfl ?_
        refine z_gP (ci := 5) (k := 1) (C := RX5) (T := TX5) (N := 13) rfl inlX5 (by decide) mw_6_5 (fun _ _ _ _ h9 => h9) hf (by decide) rfl dX5_nearestStart_50  (fun v9 hf => ?_)
        refine z_aload_n 1 dX5_nearestStart_53 rfl rfl ?_
        refine z_gI (ci := 5) (k := 12) (C := RX5) (T := TX5) (N := 13) rfl inlX5 (by decide) mw_6_3 (fun _ _ _ _ h9 => h9) hf (by decide) rfl dX5_nearestStart_54  (fun v10 hf => ?_)
        refine z_aload_n 1 dX5_nearestStart_57 rfl rfl ?_
        refine z_gP (ci := 5) (k := 6) (C := RX5) (T := TX5) (N := 13) rfl inlX5 (by decide) mw_5_21 (fun _ _ _ _ h9 => h9) hf (by decide) rfl dX5_nearestStart_58  (fun v11 hf => ?_)
        refine z_iload_n 3 dX5_nearestStart_61 rfl rfl ?_
        refine z_aI hf dX5_nearestStart_62  (fun v12 hf => ?_)
        obtain ⟨v13, ev13, hf⟩ := ob hf
        refine z_cVi (ci := 10) (T := TX10) (N := 6) (As := [.int v10, .int v12]) (rest := []) (zm_X10_between ev13).2 (zm_X10_between ev13).1 (by decide) rfl (Or.inl rfl) mw_44_9 mw_17_12 mw_17_13 mw_1_23 mw_17_14 yk_X10_between (by decide) (by decide) rfl (Nat.le_of_ble_eq_true rfl) rfl dX5_nearestStart_63 ?_
        refine z_istore_n [(2, .int v13), (1, .int ((2 : Int32) * l3)), (0, .ref l0), (3, .int l3)] dX5_nearestStart_66 rfl (by decide) rfl ?_
        refine z_lv [(0, .ref l0), (1, .int ((2 : Int32) * l3)), (2, .int v13), (3, .int l3)] [2, 1, 0, 3] rfl ?_
        exact zb_X5_nearestStart_67 hE hk7 hf
set_option maxRecDepth 20000 in
theorem zb_X5_nearestStart_7 {N : Nat} {sh : Sh} {d : Dt} {r : Int32} {E : EV} (hE : TG E (some (.int r)) (sh, d))  : ∀ (n : Nat) (l0 : Nat) (l1 : Int32) (l2 : Int32) (l3 : Int32), f_X5_nearestStart_7 N sh d n l0 l1 l2 l3 = some r → Z E yX5_nearestStart cX5_nearestStart 5 (some .int) 2 (sh, d) 7 [(0, .ref l0), (1, .int l1), (2, .int l2), (3, .int l3)] [] := by
  intro n
  induction n with
  | zero => intro l0 l1 l2 l3 hf; cases hf
  | succ n ih => intro l0 l1 l2 l3 hf; exact zg_X5_nearestStart_7 hE ih hf
set_option maxRecDepth 20000 in
theorem zm_X5_nearestStart {N : Nat} {sh : Sh} {d : Dt} {l0 : Nat} {r : Int32} (hf : f_X5_nearestStart N sh l0 d = some r) : isO sh l0 5 ∧ ∀ (l : Launch) (G : GG), Mt l G yX5_nearestStart cX5_nearestStart 5 (some .int) 2 [.ref l0] (sh, d) (some (.int r)) (sh, d) := by
  have hf0 := hf
  unfold f_X5_nearestStart at hf
  split at hf
  · rename_i hO
    refine ⟨hO, fun l G => mt_of (Or.inl (by decide)) (Nat.le_of_ble_eq_true rfl) Le.rf (fun E hE => ?_)⟩
    show Z E yX5_nearestStart cX5_nearestStart 5 (some .int) 2 (sh, d) 0 [(0, .ref l0)] []
    refine z_iconst (-1) (-1) dX5_nearestStart_0 (by decide) ?_
    refine z_istore_n [(1, .int (-1 : Int32)), (0, .ref l0)] dX5_nearestStart_1 rfl (by decide) rfl ?_
    refine z_ldc mw_44_8 dX5_nearestStart_2 ?_
    refine z_istore_n [(2, .int (1000000000 : Int32)), (1, .int (-1 : Int32)), (0, .ref l0)] dX5_nearestStart_4 rfl (by decide) rfl ?_
    refine z_iconst 0 0 dX5_nearestStart_5 (by decide) ?_
    refine z_istore_n [(3, .int (0 : Int32)), (2, .int (1000000000 : Int32)), (1, .int (-1 : Int32)), (0, .ref l0)] dX5_nearestStart_6 rfl (by decide) rfl ?_
    refine z_lv [(0, .ref l0), (1, .int (-1 : Int32)), (2, .int (1000000000 : Int32)), (3, .int (0 : Int32))] [3, 2, 1, 0] rfl ?_
    exact zb_X5_nearestStart_7 hE N _ _ _ _ hf
  · cases hf
set_option maxRecDepth 20000 in
theorem le_X5_addDrive_155 {N : Nat} {r : Int32 × AS}  {l0 : Nat} {l3 : Int32} {s : AS} (hf : f_X5_addDrive_155 N l0 l3 s = some r) : Le s r.2 := by
  unfold f_X5_addDrive_155 at hf
  obtain ⟨d33, -, hf⟩ := ob hf
  cases hf
  exact Le.rf
set_option maxRecDepth 20000 in
theorem zb_X5_addDrive_155 {N : Nat} {r : Int32 × AS} {E : EV} (hE : TG E (some (.int r.1)) r.2)  {l0 : Nat} {l3 : Int32} {s : AS} (hf : f_X5_addDrive_155 N l0 l3 s = some r) : Z E yX5_addDrive cX5_addDrive 5 (some .int) 4 s 155 [(0, .ref l0), (3, .int l3)] [] := by
  unfold f_X5_addDrive_155 at hf
  refine z_aload_n 0 dX5_addDrive_155 rfl rfl ?_
  refine z_iload_n 1 dX5_addDrive_156 rfl rfl ?_
  refine z_pI (ci := 5) (k := 12) (C := RX5) (T := TX5) (N := 13) rfl inlX5 (by decide) mw_6_3 (fun _ _ _ _ h9 => h9) tyX5 tyX5_ok nmX5 rfl hf (Or.inl (by decide)) rfl rfl rfl dX5_addDrive_157  (fun d33 hf => ?_)
  refine z_iconst 0 0 dX5_addDrive_160 (by decide) ?_
  cases hf
  exact z_ireturn hE rfl dX5_addDrive_161
set_option maxRecDepth 20000 in
theorem le_X5_addDrive_106 {N : Nat} {r : Int32 × AS}  {l0 : Nat} {l1 : Int32} {l2 : Int32} {l3 : Int32} {t0 : Nat} {t1 : Int32} {t2 : Int32} {t3 : Int32} {s : AS} (hf : f_X5_addDrive_106 N l0 l1 l2 l3 t0 t1 t2 t3 s = some r) : Le s r.2 := by
  unfold f_X5_addDrive_106 at hf
  obtain ⟨v20, -, hf⟩ := ob hf
  obtain ⟨v21, -, hf⟩ := ob hf
  obtain ⟨v22, -, hf⟩ := ob hf
  obtain ⟨v23, -, hf⟩ := ob hf
  obtain ⟨v24, -, hf⟩ := ob hf
  obtain ⟨v25, -, hf⟩ := ob hf
  obtain ⟨d26, -, hf⟩ := ob hf
  split at hf
  · exact Le.via (le_X5_addDrive_155 hf) rfl
  · obtain ⟨v27, -, hf⟩ := ob hf
    obtain ⟨v28, -, hf⟩ := ob hf
    obtain ⟨d29, -, hf⟩ := ob hf
    obtain ⟨v30, -, hf⟩ := ob hf
    obtain ⟨v31, -, hf⟩ := ob hf
    obtain ⟨d32, -, hf⟩ := ob hf
    exact Le.via (le_X5_addDrive_155 hf) rfl
set_option maxRecDepth 20000 in
theorem zb_X5_addDrive_106 {N : Nat} {r : Int32 × AS} {E : EV} (hE : TG E (some (.int r.1)) r.2)  {l0 : Nat} {l1 : Int32} {l2 : Int32} {l3 : Int32} {t0 : Nat} {t1 : Int32} {t2 : Int32} {t3 : Int32} {s : AS} (hf : f_X5_addDrive_106 N l0 l1 l2 l3 t0 t1 t2 t3 s = some r) : Z E yX5_addDrive cX5_addDrive 5 (some .int) 4 s 106 [(0, .ref l0), (1, .int l1), (2, .int l2), (3, .int l3)] [.int t3, .int t2, .int t1, .ref t0] := by
  unfold f_X5_addDrive_106 at hf
  obtain ⟨v20, ev20, hf⟩ := ob hf
  refine z_cVv (ci := 8) (T := TX8) (N := 2) (As := [.int t1, .int t2, .int t3]) (rest := []) (zm_X8_put ev20).2 (zm_X8_put ev20).1 (by decide) rfl (Or.inl rfl) mw_44_20 mw_12_23 mw_13_0 mw_3_13 mw_13_1 yk_X8_put (by decide) (by decide) rfl (Nat.le_of_ble_eq_true rfl) rfl dX5_addDrive_106 ?_
  refine z_aload_n 0 dX5_addDrive_109 rfl rfl ?_
  refine z_gP (ci := 5) (k := 4) (C := RX5) (T := TX5) (N := 13) rfl inlX5 (by decide) mw_5_19 (fun _ _ _ _ h9 => h9) hf (by decide) rfl dX5_addDrive_110  (fun v21 hf => ?_)
  refine z_iconst 1 1 dX5_addDrive_113 (by decide) ?_
  refine z_dup2_11 dX5_addDrive_114 rfl rfl ?_
  refine z_aI hf dX5_addDrive_115  (fun v22 hf => ?_)
  refine z_aload_n 0 dX5_addDrive_116 rfl rfl ?_
  refine z_gP (ci := 5) (k := 0) (C := RX5) (T := TX5) (N := 13) rfl inlX5 (by decide) mw_6_4 (fun _ _ _ _ h9 => h9) hf (by decide) rfl dX5_addDrive_117  (fun v23 hf => ?_)
  refine z_gP (ci := 1) (k := 1) (C := RX1) (T := TX1) (N := 8) rfl inlX1 (by decide) mw_43_17 (fun _ _ _ _ h9 => h9) hf (by decide) rfl dX5_addDrive_120  (fun v24 hf => ?_)
  refine z_iload_n 1 dX5_addDrive_123 rfl rfl ?_
  refine z_bipush 6 6 dX5_addDrive_124 (by decide) ?_
  obtain ⟨v25, ev25, hf⟩ := ob hf
  refine z_cVi (ci := 8) (T := TX8) (N := 2) (As := [.int l1, .int (6 : Int32)]) (rest := [.int v22, .int (1 : Int32), .ref v21]) (zm_X8_get ev25).2 (zm_X8_get ev25).1 (by decide) rfl (Or.inl rfl) mw_43_20 mw_10_11 mw_10_12 mw_3_13 mw_10_13 yk_X8_get (by decide) (by decide) rfl (Nat.le_of_ble_eq_true rfl) rfl dX5_addDrive_126 ?_
  refine z_iadd dX5_addDrive_129 ?_
  refine z_sI hf dX5_addDrive_130  (fun d26 hf => ?_)
  refine z_iload_n 2 dX5_addDrive_131 rfl rfl ?_
  refine z_if_eq 155 hf dX5_addDrive_132 (by decide) (fun hf => ?_) (fun hf => ?_)
  · refine z_lv [(0, .ref l0), (3, .int l3)] [0, 3] rfl ?_
    exact zb_X5_addDrive_155 hE hf
  · refine z_aload_n 0 dX5_addDrive_135 rfl rfl ?_
    refine z_gP (ci := 5) (k := 4) (C := RX5) (T := TX5) (N := 13) rfl inlX5 (by decide) mw_5_19 (fun _ _ _ _ h9 => h9) hf (by decide) rfl dX5_addDrive_136  (fun v27 hf => ?_)
    refine z_iconst 2 2 dX5_addDrive_139 (by decide) ?_
    refine z_dup2_11 dX5_addDrive_140 rfl rfl ?_
    refine z_aI hf dX5_addDrive_141  (fun v28 hf => ?_)
    refine z_iconst 1 1 dX5_addDrive_142 (by decide) ?_
    refine z_iadd dX5_addDrive_143 ?_
    refine z_sI hf dX5_addDrive_144  (fun d29 hf => ?_)
    refine z_aload_n 0 dX5_addDrive_145 rfl rfl ?_
    refine z_gP (ci := 5) (k := 10) (C := RX5) (T := TX5) (N := 13) rfl inlX5 (by decide) mw_6_1 (fun _ _ _ _ h9 => h9) hf (by decide) rfl dX5_addDrive_146  (fun v30 hf => ?_)
    refine z_iload_n 1 dX5_addDrive_149 rfl rfl ?_
    refine z_dup2_11 dX5_addDrive_150 rfl rfl ?_
    refine z_aI hf dX5_addDrive_151  (fun v31 hf => ?_)
    refine z_iconst 1 1 dX5_addDrive_152 (by decide) ?_
    refine z_isub dX5_addDrive_153 ?_
    refine z_sI hf dX5_addDrive_154  (fun d32 hf => ?_)
    refine z_lv [(0, .ref l0), (3, .int l3)] [0, 3] rfl ?_
    exact zb_X5_addDrive_155 hE hf
set_option maxRecDepth 20000 in
theorem le_X5_addDrive_52 {N : Nat} {r : Int32 × AS}  {l0 : Nat} {l1 : Int32} {l2 : Int32} {l3 : Int32} {t0 : Int32} {s : AS} (hf : f_X5_addDrive_52 N l0 l1 l2 l3 t0 s = some r) : Le s r.2 := by
  unfold f_X5_addDrive_52 at hf
  obtain ⟨v12, -, hf⟩ := ob hf
  obtain ⟨v13, -, hf⟩ := ob hf
  obtain ⟨v14, -, hf⟩ := ob hf
  obtain ⟨v15, -, hf⟩ := ob hf
  obtain ⟨v16, -, hf⟩ := ob hf
  obtain ⟨v17, -, hf⟩ := ob hf
  obtain ⟨v18, -, hf⟩ := ob hf
  obtain ⟨v19, -, hf⟩ := ob hf
  split at hf
  · exact Le.via (le_X5_addDrive_106 hf) rfl
  · exact Le.via (le_X5_addDrive_106 hf) rfl
set_option maxRecDepth 20000 in
theorem zb_X5_addDrive_52 {N : Nat} {r : Int32 × AS} {E : EV} (hE : TG E (some (.int r.1)) r.2)  {l0 : Nat} {l1 : Int32} {l2 : Int32} {l3 : Int32} {t0 : Int32} {s : AS} (hf : f_X5_addDrive_52 N l0 l1 l2 l3 t0 s = some r) : Z E yX5_addDrive cX5_addDrive 5 (some .int) 4 s 52 [(0, .ref l0), (1, .int l1), (2, .int l2), (3, .int l3)] [.int t0] := by
  unfold f_X5_addDrive_52 at hf
  refine z_istore [(4, .int t0), (0, .ref l0), (1, .int l1), (2, .int l2), (3, .int l3)] dX5_addDrive_52 (by decide) rfl ?_
  refine z_aload_n 1 dX5_addDrive_54 rfl rfl ?_
  refine z_gP (ci := 5) (k := 3) (C := RX5) (T := TX5) (N := 13) rfl inlX5 (by decide) mw_5_18 (fun _ _ _ _ h9 => h9) hf (by decide) rfl dX5_addDrive_55  (fun v12 hf => ?_)
  refine z_iload 0 dX5_addDrive_58 rfl ?_
  refine z_iconst 0 0 dX5_addDrive_60 (by decide) ?_
  refine z_iload_n 2 dX5_addDrive_61 rfl rfl ?_
  obtain ⟨v13, ev13, hf⟩ := ob hf
  refine z_cVv (ci := 8) (T := TX8) (N := 2) (As := [.int t0, .int (0 : Int32), .int l1]) (rest := []) (zm_X8_put ev13).2 (zm_X8_put ev13).1 (by decide) rfl (Or.inl rfl) mw_44_20 mw_12_23 mw_13_0 mw_3_13 mw_13_1 yk_X8_put (by decide) (by decide) rfl (Nat.le_of_ble_eq_true rfl) rfl dX5_addDrive_62 ?_
  refine z_aload_n 1 dX5_addDrive_65 rfl rfl ?_
  refine z_gP (ci := 5) (k := 3) (C := RX5) (T := TX5) (N := 13) rfl inlX5 (by decide) mw_5_18 (fun _ _ _ _ h9 => h9) hf (by decide) rfl dX5_addDrive_66  (fun v14 hf => ?_)
  refine z_iload 0 dX5_addDrive_69 rfl ?_
  refine z_iconst 1 1 dX5_addDrive_71 (by decide) ?_
  refine z_aload_n 1 dX5_addDrive_72 rfl rfl ?_
  refine z_gI (ci := 5) (k := 12) (C := RX5) (T := TX5) (N := 13) rfl inlX5 (by decide) mw_6_3 (fun _ _ _ _ h9 => h9) hf (by decide) rfl dX5_addDrive_73  (fun v15 hf => ?_)
  obtain ⟨v16, ev16, hf⟩ := ob hf
  refine z_cVv (ci := 8) (T := TX8) (N := 2) (As := [.int t0, .int (1 : Int32), .int v15]) (rest := []) (zm_X8_put ev16).2 (zm_X8_put ev16).1 (by decide) rfl (Or.inl rfl) mw_44_20 mw_12_23 mw_13_0 mw_3_13 mw_13_1 yk_X8_put (by decide) (by decide) rfl (Nat.le_of_ble_eq_true rfl) rfl dX5_addDrive_76 ?_
  refine z_aload_n 1 dX5_addDrive_79 rfl rfl ?_
  refine z_gP (ci := 5) (k := 3) (C := RX5) (T := TX5) (N := 13) rfl inlX5 (by decide) mw_5_18 (fun _ _ _ _ h9 => h9) hf (by decide) rfl dX5_addDrive_80  (fun v17 hf => ?_)
  refine z_iload 0 dX5_addDrive_83 rfl ?_
  refine z_iconst 2 2 dX5_addDrive_85 (by decide) ?_
  refine z_iload_n 4 dX5_addDrive_86 rfl rfl ?_
  obtain ⟨v18, ev18, hf⟩ := ob hf
  refine z_cVv (ci := 8) (T := TX8) (N := 2) (As := [.int t0, .int (2 : Int32), .int l3]) (rest := []) (zm_X8_put ev18).2 (zm_X8_put ev18).1 (by decide) rfl (Or.inl rfl) mw_44_20 mw_12_23 mw_13_0 mw_3_13 mw_13_1 yk_X8_put (by decide) (by decide) rfl (Nat.le_of_ble_eq_true rfl) rfl dX5_addDrive_87 ?_
  refine z_aload_n 1 dX5_addDrive_90 rfl rfl ?_
  refine z_gP (ci := 5) (k := 3) (C := RX5) (T := TX5) (N := 13) rfl inlX5 (by decide) mw_5_18 (fun _ _ _ _ h9 => h9) hf (by decide) rfl dX5_addDrive_91  (fun v19 hf => ?_)
  refine z_iload 0 dX5_addDrive_94 rfl ?_
  refine z_iconst 3 3 dX5_addDrive_96 (by decide) ?_
  refine z_iload_n 3 dX5_addDrive_97 rfl rfl ?_
  refine z_if_eq 105 hf dX5_addDrive_98 (by decide) (fun hf => ?_) (fun hf => ?_)
  · refine z_iconst 0 0 dX5_addDrive_105 (by decide) ?_
    refine z_lv [(0, .ref l0), (1, .int l1), (2, .int l2), (3, .int l3)] [1, 2, 3, 4] rfl ?_
    exact zb_X5_addDrive_106 hE hf
  · refine z_iconst 1 1 dX5_addDrive_101 (by decide) ?_
    refine z_goto 106 dX5_addDrive_102 (by decide) ?_
    refine z_lv [(0, .ref l0), (1, .int l1), (2, .int l2), (3, .int l3)] [1, 2, 3, 4] rfl ?_
    exact zb_X5_addDrive_106 hE hf
set_option maxRecDepth 20000 in
theorem le_X5_addDrive_44 {N : Nat} {r : Int32 × AS}  {l0 : Nat} {l1 : Int32} {l2 : Int32} {t0 : Int32} {s : AS} (hf : f_X5_addDrive_44 N l0 l1 l2 t0 s = some r) : Le s r.2 := by
  unfold f_X5_addDrive_44 at hf
  obtain ⟨v10, -, hf⟩ := ob hf
  obtain ⟨v11, ev11, hf⟩ := ob hf
  refine Le.of (t := (s.1, s.2)) rfl ((lm_X8_add ev11).tr ?_)
  exact Le.via (le_X5_addDrive_52 hf) rfl
set_option maxRecDepth 20000 in
theorem zb_X5_addDrive_44 {N : Nat} {r : Int32 × AS} {E : EV} (hE : TG E (some (.int r.1)) r.2)  {l0 : Nat} {l1 : Int32} {l2 : Int32} {t0 : Int32} {s : AS} (hf : f_X5_addDrive_44 N l0 l1 l2 t0 s = some r) : Z E yX5_addDrive cX5_addDrive 5 (some .int) 4 s 44 [(0, .ref l0), (1, .int l1), (2, .int l2)] [.int t0] := by
  unfold f_X5_addDrive_44 at hf
  refine z_istore_n [(3, .int t0), (0, .ref l0), (1, .int l1), (2, .int l2)] dX5_addDrive_44 rfl (by decide) rfl ?_
  refine z_aload_n 1 dX5_addDrive_45 rfl rfl ?_
  refine z_gP (ci := 5) (k := 3) (C := RX5) (T := TX5) (N := 13) rfl inlX5 (by decide) mw_5_18 (fun _ _ _ _ h9 => h9) hf (by decide) rfl dX5_addDrive_46  (fun v10 hf => ?_)
  obtain ⟨v11, ev11, hf⟩ := ob hf
  refine z_cVi (ci := 8) (T := TX8) (N := 2) (As := []) (rest := []) (zm_X8_add ev11).2 (zm_X8_add ev11).1 (by decide) rfl (Or.inr (tg_le hE (le_X5_addDrive_52 hf))) mw_44_19 mw_12_19 mw_12_20 mw_3_13 mw_12_21 yk_X8_add (by decide) (by decide) rfl (Nat.le_of_ble_eq_true rfl) rfl dX5_addDrive_49 ?_
  refine z_lv [(0, .ref l0), (1, .int l1), (2, .int l2), (3, .int t0)] [1, 2, 3, 0] rfl ?_
  exact zb_X5_addDrive_52 hE hf
set_option maxRecDepth 20000 in
theorem lm_X5_addDrive {N : Nat} {s : AS} {l0 : Nat} {l1 : Int32} {l2 : Int32} {r : Int32 × AS} (hf : f_X5_addDrive N l0 l1 l2 s = some r) : Le s r.2 := by
  unfold f_X5_addDrive at hf
  split at hf
  · skip
    obtain ⟨v1, -, hf⟩ := ob hf
    obtain ⟨v2, -, hf⟩ := ob hf
    split at hf
    · obtain ⟨v3, -, hf⟩ := ob hf
      obtain ⟨v4, -, hf⟩ := ob hf
      obtain ⟨v5, -, hf⟩ := ob hf
      split at hf
      · obtain ⟨v6, -, hf⟩ := ob hf
        obtain ⟨v7, -, hf⟩ := ob hf
        exact Le.via (le_X5_addDrive_44 hf) rfl
      · obtain ⟨v8, -, hf⟩ := ob hf
        obtain ⟨v9, -, hf⟩ := ob hf
        exact Le.via (le_X5_addDrive_44 hf) rfl
    · cases hf
      exact Le.rf
  · cases hf
set_option maxRecDepth 20000 in
theorem zm_X5_addDrive {N : Nat} {s : AS} {l0 : Nat} {l1 : Int32} {l2 : Int32} {r : Int32 × AS} (hf : f_X5_addDrive N l0 l1 l2 s = some r) : isO s.1 l0 5 ∧ ∀ (l : Launch) (G : GG), Mt l G yX5_addDrive cX5_addDrive 5 (some .int) 4 [.ref l0, .int l1, .int l2] s (some (.int r.1)) r.2 := by
  have hf0 := hf
  unfold f_X5_addDrive at hf
  split at hf
  · rename_i hO
    refine ⟨hO, fun l G => mt_of (Or.inl (by decide)) (Nat.le_of_ble_eq_true rfl) (lm_X5_addDrive hf0) (fun E hE => ?_)⟩
    show Z E yX5_addDrive cX5_addDrive 5 (some .int) 4 s 0 [(0, .ref l0), (1, .int l1), (2, .int l2)] []
    refine z_aload_n 0 dX5_addDrive_0 rfl rfl ?_
    refine z_gP (ci := 5) (k := 3) (C := RX5) (T := TX5) (N := 13) rfl inlX5 (by decide) mw_5_18 (fun _ _ _ _ h9 => h9) hf (by decide) rfl dX5_addDrive_1  (fun v1 hf => ?_)
    refine z_gI (ci := 8) (k := 1) (C := RX8) (T := TX8) (N := 2) rfl inlX8 (by decide) mw_43_16 (fun _ _ _ _ h9 => h9) hf (by decide) rfl dX5_addDrive_4  (fun v2 hf => ?_)
    refine z_sipush 2000 2000 dX5_addDrive_7 (by decide) ?_
    refine z_icmp_lt 16 hf dX5_addDrive_10 (by decide) (fun hf => ?_) (fun hf => ?_)
    · refine z_aload_n 0 dX5_addDrive_16 rfl rfl ?_
      refine z_gP (ci := 5) (k := 6) (C := RX5) (T := TX5) (N := 13) rfl inlX5 (by decide) mw_5_21 (fun _ _ _ _ h9 => h9) hf (by decide) rfl dX5_addDrive_17  (fun v3 hf => ?_)
      refine z_iload_n 1 dX5_addDrive_20 rfl rfl ?_
      refine z_aI hf dX5_addDrive_21  (fun v4 hf => ?_)
      refine z_aload_n 0 dX5_addDrive_22 rfl rfl ?_
      refine z_gI (ci := 5) (k := 12) (C := RX5) (T := TX5) (N := 13) rfl inlX5 (by decide) mw_6_3 (fun _ _ _ _ h9 => h9) hf (by decide) rfl dX5_addDrive_23  (fun v5 hf => ?_)
      refine z_icmp_ne 38 hf dX5_addDrive_26 (by decide) (fun hf => ?_) (fun hf => ?_)
      · refine z_aload_n 0 dX5_addDrive_38 rfl rfl ?_
        refine z_gP (ci := 5) (k := 6) (C := RX5) (T := TX5) (N := 13) rfl inlX5 (by decide) mw_5_21 (fun _ _ _ _ h9 => h9) hf (by decide) rfl dX5_addDrive_39  (fun v6 hf => ?_)
        refine z_iload_n 1 dX5_addDrive_42 rfl rfl ?_
        refine z_aI hf dX5_addDrive_43  (fun v7 hf => ?_)
        exact zb_X5_addDrive_44 hE hf
      · refine z_aload_n 0 dX5_addDrive_29 rfl rfl ?_
        refine z_gP (ci := 5) (k := 7) (C := RX5) (T := TX5) (N := 13) rfl inlX5 (by decide) mw_5_22 (fun _ _ _ _ h9 => h9) hf (by decide) rfl dX5_addDrive_30  (fun v8 hf => ?_)
        refine z_iload_n 1 dX5_addDrive_33 rfl rfl ?_
        refine z_aI hf dX5_addDrive_34  (fun v9 hf => ?_)
        refine z_goto 44 dX5_addDrive_35 (by decide) ?_
        exact zb_X5_addDrive_44 hE hf
    · refine z_bipush (-3) (-3) dX5_addDrive_13 (by decide) ?_
      cases hf
      exact z_ireturn hE rfl dX5_addDrive_15
  · cases hf
set_option maxRecDepth 20000 in
theorem le_X5_driveTo_81 {N : Nat} {r : Int32 × AS}  {l2 : Int32} {s : AS} (hf : f_X5_driveTo_81 N l2 s = some r) : Le s r.2 := by
  unfold f_X5_driveTo_81 at hf
  cases hf
  exact Le.rf
set_option maxRecDepth 20000 in
theorem zb_X5_driveTo_81 {N : Nat} {r : Int32 × AS} {E : EV} (hE : TG E (some (.int r.1)) r.2)  {l2 : Int32} {s : AS} (hf : f_X5_driveTo_81 N l2 s = some r) : Z E yX5_driveTo cX5_driveTo 5 (some .int) 5 s 81 [(2, .int l2)] [] := by
  unfold f_X5_driveTo_81 at hf
  refine z_iload_n 0 dX5_driveTo_81 rfl rfl ?_
  cases hf
  exact z_ireturn hE rfl dX5_driveTo_82
set_option maxRecDepth 20000 in
theorem le_X5_driveTo_74 {N : Nat} {k24 : Nat → Int32 → Int32 → Int32 → AS → Option (Int32 × AS)} {r : Int32 × AS} (hk24 : ∀ (l0 : Nat) (l1 : Int32) (l2 : Int32) (l3 : Int32) (s : AS), k24 l0 l1 l2 l3 s = some r → Le s r.2) {l0 : Nat} {l1 : Int32} {l3 : Int32} {t0 : Int32} {s : AS} (hf : f_X5_driveTo_74 N k24 l0 l1 l3 t0 s = some r) : Le s r.2 := by
  unfold f_X5_driveTo_74 at hf
  exact Le.via (hk24 _ _ _ _ _ hf) rfl
set_option maxRecDepth 20000 in
theorem zb_X5_driveTo_74 {N : Nat} {k24 : Nat → Int32 → Int32 → Int32 → AS → Option (Int32 × AS)} {r : Int32 × AS} {E : EV} (hE : TG E (some (.int r.1)) r.2) (hk24 : ∀ (l0 : Nat) (l1 : Int32) (l2 : Int32) (l3 : Int32) (s : AS), k24 l0 l1 l2 l3 s = some r → Z E yX5_driveTo cX5_driveTo 5 (some .int) 5 s 24 [(0, .ref l0), (1, .int l1), (2, .int l2), (3, .int l3)] []) {l0 : Nat} {l1 : Int32} {l3 : Int32} {t0 : Int32} {s : AS} (hf : f_X5_driveTo_74 N k24 l0 l1 l3 t0 s = some r) : Z E yX5_driveTo cX5_driveTo 5 (some .int) 5 s 74 [(0, .ref l0), (1, .int l1), (3, .int l3)] [.int t0] := by
  unfold f_X5_driveTo_74 at hf
  refine z_istore_n [(2, .int t0), (0, .ref l0), (1, .int l1), (3, .int l3)] dX5_driveTo_74 rfl (by decide) rfl ?_
  refine z_iinc [(3, .int (l3 + 1)), (2, .int t0), (0, .ref l0), (1, .int l1)] 3 (l3 + 1) dX5_driveTo_75 rfl rfl (by decide) rfl ?_
  refine z_goto 24 dX5_driveTo_78 (by decide) ?_
  refine z_lv [(0, .ref l0), (1, .int l1), (2, .int t0), (3, .int (l3 + 1))] [2, 3, 1, 0] rfl ?_
  exact hk24 _ _ _ _ _ hf
set_option maxRecDepth 20000 in
theorem lg_X5_driveTo_24 {N : Nat} {r : Int32 × AS} {k24 : Nat → Int32 → Int32 → Int32 → AS → Option (Int32 × AS)}  (hk24 : ∀ (l0 : Nat) (l1 : Int32) (l2 : Int32) (l3 : Int32) (s : AS), k24 l0 l1 l2 l3 s = some r → Le s r.2) {l0 : Nat} {l1 : Int32} {l2 : Int32} {l3 : Int32} {s : AS} (hf : g_X5_driveTo_24 N k24 l0 l1 l2 l3 s = some r) : Le s r.2 := by
  unfold g_X5_driveTo_24 at hf
  split at hf
  · exact Le.via (le_X5_driveTo_81 hf) rfl
  · obtain ⟨v4, -, hf⟩ := ob hf
    split at hf
    · exact Le.via (le_X5_driveTo_81 hf) rfl
    · split at hf
      · exact Le.via (le_X5_driveTo_81 hf) rfl
      · obtain ⟨v5, -, hf⟩ := ob hf
        obtain ⟨v6, -, hf⟩ := ob hf
        obtain ⟨v7, -, hf⟩ := ob hf
        split at hf
        · obtain ⟨v8, ev8, hf⟩ := ob hf
          refine Le.of (t := (s.1, s.2)) rfl ((lm_X5_addDrive ev8).tr ?_)
          exact Le.via (le_X5_driveTo_74 hk24 hf) rfl
        · exact Le.via (le_X5_driveTo_74 hk24 hf) rfl
set_option maxRecDepth 20000 in
theorem le_X5_driveTo_24 {N : Nat} {r : Int32 × AS}  : ∀ (n : Nat) (l0 : Nat) (l1 : Int32) (l2 : Int32) (l3 : Int32) (s : AS), f_X5_driveTo_24 N n l0 l1 l2 l3 s = some r → Le s r.2 := by
  intro n
  induction n with
  | zero => intro l0 l1 l2 l3 s hf; cases hf
  | succ n ih => intro l0 l1 l2 l3 s hf; exact lg_X5_driveTo_24 ih hf
set_option maxRecDepth 20000 in
theorem zg_X5_driveTo_24 {N : Nat} {r : Int32 × AS} {k24 : Nat → Int32 → Int32 → Int32 → AS → Option (Int32 × AS)} {E : EV} (hE : TG E (some (.int r.1)) r.2)  (hk24 : ∀ (l0 : Nat) (l1 : Int32) (l2 : Int32) (l3 : Int32) (s : AS), k24 l0 l1 l2 l3 s = some r → Z E yX5_driveTo cX5_driveTo 5 (some .int) 5 s 24 [(0, .ref l0), (1, .int l1), (2, .int l2), (3, .int l3)] []) {l0 : Nat} {l1 : Int32} {l2 : Int32} {l3 : Int32} {s : AS} (hf : g_X5_driveTo_24 N k24 l0 l1 l2 l3 s = some r) : Z E yX5_driveTo cX5_driveTo 5 (some .int) 5 s 24 [(0, .ref l0), (1, .int l1), (2, .int l2), (3, .int l3)] [] := by
  unfold g_X5_driveTo_24 at hf
  refine z_iload_n 3 dX5_driveTo_24 rfl rfl ?_
  refine z_bipush 60 60 dX5_driveTo_25 (by decide) ?_
  refine z_icmp_ge 81 hf dX5_driveTo_27 (by decide) (fun hf => ?_) (fun hf => ?_)
  · refine z_lv [(2, .int l2)] [2] rfl ?_
    exact zb_X5_driveTo_81 hE hf
  · refine z_aload_n 0 dX5_driveTo_30 rfl rfl ?_
    refine z_gI (ci := 5) (k := 12) (C := RX5) (T := TX5) (N := 13) rfl inlX5 (by decide) mw_6_3 (fun _ _ _ _ h9 => h9) hf (by decide) rfl dX5_driveTo_31  (fun v4 hf => ?_)
    refine z_iload_n 1 dX5_driveTo_34 rfl rfl ?_
    refine z_icmp_eq 81 hf dX5_driveTo_35 (by decide) (fun hf => ?_) (fun hf => ?_)
    · refine z_lv [(2, .int l2)] [2] rfl ?_
      exact zb_X5_driveTo_81 hE hf
    · refine z_iload_n 2 dX5_driveTo_38 rfl rfl ?_
      refine z_if_ne 81 hf dX5_driveTo_39 (by decide) (fun hf => ?_) (fun hf => ?_)
      · refine z_lv [(2, .int l2)] [2] rfl ?_
        exact zb_X5_driveTo_81 hE hf
      · refine z_aload_n 0 dX5_driveTo_42 rfl rfl ?_
        refine z_gP (ci := 5) (k := 1) (C := RX5) (T := TX5) (N := 13) rfl inlX5 (by decide) mw_6_5 (fun _ _ _ _ h9 => h9) hf (by decide) rfl dX5_driveTo_43  (fun v5 hf => ?_)
        refine z_aload_n 0 dX5_driveTo_46 rfl rfl ?_
        refine z_gI (ci := 5) (k := 12) (C := RX5) (T := TX5) (N := 13) rfl inlX5 (by decide) mw_6_3 (fun _ _ _ _ h9 => h9) hf (by decide) rfl dX5_driveTo_47  (fun v6 hf => ?_)
        refine z_iload_n 1 dX5_driveTo_50 rfl rfl ?_
        obtain ⟨v7, ev7, hf⟩ := ob hf
        refine z_cVi (ci := 10) (T := TX10) (N := 6) (As := [.int v6, .int l1]) (rest := []) (zm_X10_nextStreet ev7).2 (zm_X10_nextStreet ev7).1 (by decide) rfl (Or.inl rfl) mw_44_14 mw_18_21 mw_18_22 mw_1_23 mw_18_23 yk_X10_nextStreet (by decide) (by decide) rfl (Nat.le_of_ble_eq_true rfl) rfl dX5_driveTo_51 ?_
        refine z_istore [(4, .int v7), (0, .ref l0), (1, .int l1), (2, .int l2), (3, .int l3)] dX5_driveTo_54 (by decide) rfl ?_
        refine z_iload 0 dX5_driveTo_56 rfl ?_
        refine z_iconst (-1) (-1) dX5_driveTo_58 (by decide) ?_
        refine z_icmp_ne 67 hf dX5_driveTo_59 (by decide) (fun hf => ?_) (fun hf => ?_)
        · refine z_aload_n 1 dX5_driveTo_67 rfl rfl ?_
          refine z_iload 0 dX5_driveTo_68 rfl ?_
          refine z_iconst 0 0 dX5_driveTo_70 (by decide) ?_
          obtain ⟨v8, ev8, hf⟩ := ob hf
          refine z_cVi (ci := 5) (T := TX5) (N := 13) (As := [.int v7, .int (0 : Int32)]) (rest := []) (zm_X5_addDrive ev8).2 (zm_X5_addDrive ev8).1 (by decide) rfl (Or.inr (tg_le hE (le_X5_driveTo_74 hf))) mw_44_15 mw_44_16 mw_44_17 mw_2_7 mw_44_18 yk_X5_addDrive (by decide) (by decide) rfl (Nat.le_of_ble_eq_true rfl) rfl dX5_driveTo_71 ?_
          refine z_lv [(0, .ref l0), (1, .int l1), (3, .int l3)] [1, 2, 4] rfl ?_
          exact zb_X5_driveTo_74 hE hk24 hf
        · refine z_bipush (-8) (-8) dX5_driveTo_62 (by decide) ?_
          refine z_goto 74 dX5_driveTo_64 (by decide) ?_
          refine z_lv [(0, .ref l0), (1, .int l1), (3, .int l3)] [1, 2, 4] rfl ?_
          exact zb_X5_driveTo_74 hE hk24 hf
set_option maxRecDepth 20000 in
theorem zb_X5_driveTo_24 {N : Nat} {r : Int32 × AS} {E : EV} (hE : TG E (some (.int r.1)) r.2)  : ∀ (n : Nat) (l0 : Nat) (l1 : Int32) (l2 : Int32) (l3 : Int32) (s : AS), f_X5_driveTo_24 N n l0 l1 l2 l3 s = some r → Z E yX5_driveTo cX5_driveTo 5 (some .int) 5 s 24 [(0, .ref l0), (1, .int l1), (2, .int l2), (3, .int l3)] [] := by
  intro n
  induction n with
  | zero => intro l0 l1 l2 l3 s hf; cases hf
  | succ n ih => intro l0 l1 l2 l3 s hf; exact zg_X5_driveTo_24 hE ih hf
set_option maxRecDepth 20000 in
theorem lm_X5_driveTo {N : Nat} {s : AS} {l0 : Nat} {l1 : Int32} {r : Int32 × AS} (hf : f_X5_driveTo N l0 l1 s = some r) : Le s r.2 := by
  unfold f_X5_driveTo at hf
  split at hf
  · skip
    obtain ⟨v1, -, hf⟩ := ob hf
    obtain ⟨v2, -, hf⟩ := ob hf
    obtain ⟨v3, -, hf⟩ := ob hf
    split at hf
    · exact Le.via (le_X5_driveTo_24 N _ _ _ _ _ hf) rfl
    · cases hf
      exact Le.rf
  · cases hf
set_option maxRecDepth 20000 in
theorem zm_X5_driveTo {N : Nat} {s : AS} {l0 : Nat} {l1 : Int32} {r : Int32 × AS} (hf : f_X5_driveTo N l0 l1 s = some r) : isO s.1 l0 5 ∧ ∀ (l : Launch) (G : GG), Mt l G yX5_driveTo cX5_driveTo 5 (some .int) 5 [.ref l0, .int l1] s (some (.int r.1)) r.2 := by
  have hf0 := hf
  unfold f_X5_driveTo at hf
  split at hf
  · rename_i hO
    refine ⟨hO, fun l G => mt_of (Or.inl (by decide)) (Nat.le_of_ble_eq_true rfl) (lm_X5_driveTo hf0) (fun E hE => ?_)⟩
    show Z E yX5_driveTo cX5_driveTo 5 (some .int) 5 s 0 [(0, .ref l0), (1, .int l1)] []
    refine z_aload_n 0 dX5_driveTo_0 rfl rfl ?_
    refine z_gP (ci := 5) (k := 1) (C := RX5) (T := TX5) (N := 13) rfl inlX5 (by decide) mw_6_5 (fun _ _ _ _ h9 => h9) hf (by decide) rfl dX5_driveTo_1  (fun v1 hf => ?_)
    refine z_aload_n 0 dX5_driveTo_4 rfl rfl ?_
    refine z_gI (ci := 5) (k := 12) (C := RX5) (T := TX5) (N := 13) rfl inlX5 (by decide) mw_6_3 (fun _ _ _ _ h9 => h9) hf (by decide) rfl dX5_driveTo_5  (fun v2 hf => ?_)
    refine z_iload_n 1 dX5_driveTo_8 rfl rfl ?_
    obtain ⟨v3, ev3, hf⟩ := ob hf
    refine z_cVi (ci := 10) (T := TX10) (N := 6) (As := [.int v2, .int l1]) (rest := []) (zm_X10_between ev3).2 (zm_X10_between ev3).1 (by decide) rfl (Or.inl rfl) mw_44_9 mw_17_12 mw_17_13 mw_1_23 mw_17_14 yk_X10_between (by decide) (by decide) rfl (Nat.le_of_ble_eq_true rfl) rfl dX5_driveTo_9 ?_
    refine z_ldc mw_44_8 dX5_driveTo_12 ?_
    refine z_icmp_lt 20 hf dX5_driveTo_14 (by decide) (fun hf => ?_) (fun hf => ?_)
    · refine z_iconst 0 0 dX5_driveTo_20 (by decide) ?_
      refine z_istore_n [(2, .int (0 : Int32)), (0, .ref l0), (1, .int l1)] dX5_driveTo_21 rfl (by decide) rfl ?_
      refine z_iconst 0 0 dX5_driveTo_22 (by decide) ?_
      refine z_istore_n [(3, .int (0 : Int32)), (2, .int (0 : Int32)), (0, .ref l0), (1, .int l1)] dX5_driveTo_23 rfl (by decide) rfl ?_
      refine z_lv [(0, .ref l0), (1, .int l1), (2, .int (0 : Int32)), (3, .int (0 : Int32))] [2, 3, 1, 0] rfl ?_
      exact zb_X5_driveTo_24 hE N _ _ _ _ _ hf
    · refine z_bipush (-8) (-8) dX5_driveTo_17 (by decide) ?_
      cases hf
      exact z_ireturn hE rfl dX5_driveTo_19
  · cases hf
