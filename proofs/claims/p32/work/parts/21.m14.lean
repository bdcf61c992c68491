set_option maxRecDepth 20000 in
theorem le_X11_split_168 {N : Nat} {r : Int32 × AS}  {l0 : Nat} {s : AS} (hf : f_X11_split_168 N l0 s = some r) : Le s r.2 := by
  unfold f_X11_split_168 at hf
  obtain ⟨v36, -, hf⟩ := ob hf
  cases hf
  exact Le.rf
set_option maxRecDepth 20000 in
theorem zb_X11_split_168 {N : Nat} {r : Int32 × AS} {E : EV} (hE : TG E (some (.int r.1)) r.2)   {l0 : Nat} {s : AS} (hf : f_X11_split_168 N l0 s = some r) : Z E yX11_split cX11_split 3 (some .int) 6 s 168 [(0, .ref l0)] [] := by
  unfold f_X11_split_168 at hf
  refine z_aload_n 0 dX11_split_168 rfl rfl ?_
  refine z_iconst 1 1 dX11_split_169 (by decide) ?_
  obtain ⟨v36, ev36, hf⟩ := ob hf
  refine z_cVi (ci := 11) (T := TX11) (N := 14) (As := [.int (1 : Int32)]) (rest := []) (zm_X11_answer ev36).2 (zm_X11_answer ev36).1 (by decide) rfl (Or.inl rfl) mw_11_2 mw_11_3 mw_11_4 mw_1_2 mw_11_5 yk_X11_answer (by decide) (by decide) rfl (Nat.le_of_ble_eq_true rfl) rfl dX11_split_170 ?_
  cases hf
  exact z_ireturn hE rfl dX11_split_173
set_option maxRecDepth 20000 in
theorem le_X11_split_162 {N : Nat} {k68 : Nat → Int32 → AS → Option (Int32 × AS)} {r : Int32 × AS} (hk68 : ∀ (l0 : Nat) (l2 : Int32) (s : AS), k68 l0 l2 s = some r → Le s r.2) {l0 : Nat} {l2 : Int32} {s : AS} (hf : f_X11_split_162 N k68 l0 l2 s = some r) : Le s r.2 := by
  unfold f_X11_split_162 at hf
  exact Le.via (hk68 _ _ _ hf) rfl
set_option maxRecDepth 20000 in
theorem zb_X11_split_162 {N : Nat} {k68 : Nat → Int32 → AS → Option (Int32 × AS)} {r : Int32 × AS} {E : EV} (hE : TG E (some (.int r.1)) r.2) (hk68 : ∀ (l0 : Nat) (l2 : Int32) (s : AS), k68 l0 l2 s = some r → Z E yX11_split cX11_split 3 (some .int) 6 s 68 [(0, .ref l0), (2, .int l2)] []) (hq68 : ∀ (l0 : Nat) (l2 : Int32) (s : AS), k68 l0 l2 s = some r → Le s r.2) {l0 : Nat} {l2 : Int32} {s : AS} (hf : f_X11_split_162 N k68 l0 l2 s = some r) : Z E yX11_split cX11_split 3 (some .int) 6 s 162 [(0, .ref l0), (2, .int l2)] [] := by
  unfold f_X11_split_162 at hf
  refine z_iinc [(2, .int (l2 + 1)), (0, .ref l0)] 1 (l2 + 1) dX11_split_162 rfl rfl (by decide) rfl ?_
  refine z_goto 68 dX11_split_165 (by decide) ?_
  refine z_lv [(0, .ref l0), (2, .int (l2 + 1))] [1, 0] rfl ?_
  exact hk68 _ _ _ hf
set_option maxRecDepth 20000 in
theorem lg_X11_split_68 {N : Nat} {r : Int32 × AS} {k68 : Nat → Int32 → AS → Option (Int32 × AS)}  (hk68 : ∀ (l0 : Nat) (l2 : Int32) (s : AS), k68 l0 l2 s = some r → Le s r.2) {l0 : Nat} {l2 : Int32} {s : AS} (hf : g_X11_split_68 N k68 l0 l2 s = some r) : Le s r.2 := by
  unfold g_X11_split_68 at hf
  obtain ⟨v12, -, hf⟩ := ob hf
  obtain ⟨v13, -, hf⟩ := ob hf
  obtain ⟨v14, -, hf⟩ := ob hf
  refine ite_c hf (fun hf => ?_) (fun hf => ?_)
  · exact Le.via (le_X11_split_168 hf) rfl
  · obtain ⟨v15, -, hf⟩ := ob hf
    obtain ⟨v16, -, hf⟩ := ob hf
    refine ite_c hf (fun hf => ?_) (fun hf => ?_)
    · exact Le.via (le_X11_split_162 hk68 hf) rfl
    · obtain ⟨v17, -, hf⟩ := ob hf
      obtain ⟨v18, -, hf⟩ := ob hf
      obtain ⟨v19, -, hf⟩ := ob hf
      obtain ⟨v20, -, hf⟩ := ob hf
      obtain ⟨v21, -, hf⟩ := ob hf
      obtain ⟨v22, -, hf⟩ := ob hf
      obtain ⟨v23, -, hf⟩ := ob hf
      obtain ⟨v24, -, hf⟩ := ob hf
      obtain ⟨v25, -, hf⟩ := ob hf
      obtain ⟨v26, -, hf⟩ := ob hf
      obtain ⟨v27, -, hf⟩ := ob hf
      obtain ⟨v28, -, hf⟩ := ob hf
      obtain ⟨v29, -, hf⟩ := ob hf
      obtain ⟨v30, -, hf⟩ := ob hf
      obtain ⟨v31, -, hf⟩ := ob hf
      obtain ⟨v32, -, hf⟩ := ob hf
      obtain ⟨v33, -, hf⟩ := ob hf
      obtain ⟨v34, -, hf⟩ := ob hf
      obtain ⟨v35, -, hf⟩ := ob hf
      exact Le.via (le_X11_split_162 hk68 hf) rfl
set_option maxRecDepth 20000 in
theorem le_X11_split_68 {N : Nat} {r : Int32 × AS}  : ∀ (n : Nat) (l0 : Nat) (l2 : Int32) (s : AS), f_X11_split_68 N n l0 l2 s = some r → Le s r.2 := by
  intro n
  induction n with
  | zero => intro l0 l2 s hf; cases hf
  | succ n ih => intro l0 l2 s hf; exact lg_X11_split_68 ih hf
set_option maxRecDepth 20000 in
theorem zg_X11_split_68 {N : Nat} {r : Int32 × AS} {k68 : Nat → Int32 → AS → Option (Int32 × AS)} {E : EV} (hE : TG E (some (.int r.1)) r.2)   (hk68 : ∀ (l0 : Nat) (l2 : Int32) (s : AS), k68 l0 l2 s = some r → Z E yX11_split cX11_split 3 (some .int) 6 s 68 [(0, .ref l0), (2, .int l2)] []) (hq68 : ∀ (l0 : Nat) (l2 : Int32) (s : AS), k68 l0 l2 s = some r → Le s r.2) {l0 : Nat} {l2 : Int32} {s : AS} (hf : g_X11_split_68 N k68 l0 l2 s = some r) : Z E yX11_split cX11_split 3 (some .int) 6 s 68 [(0, .ref l0), (2, .int l2)] [] := by
  unfold g_X11_split_68 at hf
  refine z_iload_n 1 dX11_split_68 rfl rfl ?_
  refine z_aload_n 0 dX11_split_69 rfl rfl ?_
  refine z_gP (ci := 11) (k := 1) (C := RX11) (T := TX11) (N := 14) rfl inlX11 (by decide) mw_1_19 (fun _ _ _ _ h9 => h9) hf (by decide) rfl dX11_split_70  (fun v12 hf => ?_)
  refine z_gP (ci := 1) (k := 3) (C := RX1) (T := TX1) (N := 8) rfl inlX1 (by decide) mw_29_16 (fun _ _ _ _ h9 => h9) hf (by decide) rfl dX11_split_73  (fun v13 hf => ?_)
  refine z_gI (ci := 8) (k := 1) (C := RX8) (T := TX8) (N := 2) rfl inlX8 (by decide) mw_12_13 (fun _ _ _ _ h9 => h9) hf (by decide) rfl dX11_split_76  (fun v14 hf => ?_)
  refine z_icmp_ge 168 hf dX11_split_79 (by decide) (fun hf => ?_) (fun hf => ?_)
  · refine z_lv [(0, .ref l0)] [0] rfl ?_
    exact zb_X11_split_168 hE hf
  · refine z_aload_n 0 dX11_split_82 rfl rfl ?_
    refine z_gP (ci := 11) (k := 1) (C := RX11) (T := TX11) (N := 14) rfl inlX11 (by decide) mw_1_19 (fun _ _ _ _ h9 => h9) hf (by decide) rfl dX11_split_83  (fun v15 hf => ?_)
    refine z_iload_n 1 dX11_split_86 rfl rfl ?_
    obtain ⟨v16, ev16, hf⟩ := ob hf
    refine z_cVi (ci := 1) (T := TX1) (N := 8) (As := [.int l2]) (rest := []) (zm_X1_isOut ev16).2 (zm_X1_isOut ev16).1 (by decide) rfl (Or.inl rfl) mw_31_22 mw_31_23 mw_32_0 mw_1_18 mw_32_1 yk_X1_isOut (by decide) (by decide) rfl (Nat.le_of_ble_eq_true rfl) rfl dX11_split_87 ?_
    refine z_if_ne 162 hf dX11_split_90 (by decide) (fun hf => ?_) (fun hf => ?_)
    · exact zb_X11_split_162 hE hk68 hq68 hf
    · refine z_aload_n 0 dX11_split_93 rfl rfl ?_
      refine z_gP (ci := 11) (k := 1) (C := RX11) (T := TX11) (N := 14) rfl inlX11 (by decide) mw_1_19 (fun _ _ _ _ h9 => h9) hf (by decide) rfl dX11_split_94  (fun v17 hf => ?_)
      refine z_iload_n 1 dX11_split_97 rfl rfl ?_
      obtain ⟨v18, ev18, hf⟩ := ob hf
      refine z_cVv (ci := 1) (T := TX1) (N := 8) (As := [.int l2]) (rest := []) (zm_X1_dropPart ev18).2 (zm_X1_dropPart ev18).1 (by decide) rfl (Or.inl rfl) mw_48_12 mw_32_7 mw_32_8 mw_1_18 mw_32_9 yk_X1_dropPart (by decide) (by decide) rfl (Nat.le_of_ble_eq_true rfl) rfl dX11_split_98 ?_
      refine z_aload_n 0 dX11_split_101 rfl rfl ?_
      refine z_gP (ci := 11) (k := 1) (C := RX11) (T := TX11) (N := 14) rfl inlX11 (by decide) mw_1_19 (fun _ _ _ _ h9 => h9) hf (by decide) rfl dX11_split_102  (fun v19 hf => ?_)
      refine z_gP (ci := 1) (k := 3) (C := RX1) (T := TX1) (N := 8) rfl inlX1 (by decide) mw_29_16 (fun _ _ _ _ h9 => h9) hf (by decide) rfl dX11_split_105  (fun v20 hf => ?_)
      refine z_iload_n 1 dX11_split_108 rfl rfl ?_
      refine z_iconst 0 0 dX11_split_109 (by decide) ?_
      refine z_aload_n 0 dX11_split_110 rfl rfl ?_
      refine z_gP (ci := 11) (k := 8) (C := RX11) (T := TX11) (N := 14) rfl inlX11 (by decide) mw_2_14 (fun _ _ _ _ h9 => h9) hf (by decide) rfl dX11_split_111  (fun v21 hf => ?_)
      refine z_iload_n 1 dX11_split_114 rfl rfl ?_
      refine z_aI hf dX11_split_115  (fun v22 hf => ?_)
      obtain ⟨v23, ev23, hf⟩ := ob hf
      refine z_cVv (ci := 8) (T := TX8) (N := 2) (As := [.int l2, .int (0 : Int32), .int v22]) (rest := []) (zm_X8_put ev23).2 (zm_X8_put ev23).1 (by decide) rfl (Or.inl rfl) mw_12_22 mw_12_23 mw_13_0 mw_3_13 mw_13_1 yk_X8_put (by decide) (by decide) rfl (Nat.le_of_ble_eq_true rfl) rfl dX11_split_116 ?_
      refine z_aload_n 0 dX11_split_119 rfl rfl ?_
      refine z_gP (ci := 11) (k := 1) (C := RX11) (T := TX11) (N := 14) rfl inlX11 (by decide) mw_1_19 (fun _ _ _ _ h9 => h9) hf (by decide) rfl dX11_split_120  (fun v24 hf => ?_)
      refine z_gP (ci := 1) (k := 3) (C := RX1) (T := TX1) (N := 8) rfl inlX1 (by decide) mw_29_16 (fun _ _ _ _ h9 => h9) hf (by decide) rfl dX11_split_123  (fun v25 hf => ?_)
      refine z_iload_n 1 dX11_split_126 rfl rfl ?_
      refine z_iconst 1 1 dX11_split_127 (by decide) ?_
      refine z_aload_n 0 dX11_split_128 rfl rfl ?_
      refine z_gP (ci := 11) (k := 9) (C := RX11) (T := TX11) (N := 14) rfl inlX11 (by decide) mw_2_15 (fun _ _ _ _ h9 => h9) hf (by decide) rfl dX11_split_129  (fun v26 hf => ?_)
      refine z_iload_n 1 dX11_split_132 rfl rfl ?_
      refine z_aI hf dX11_split_133  (fun v27 hf => ?_)
      refine z_aload_n 0 dX11_split_134 rfl rfl ?_
      refine z_gP (ci := 11) (k := 8) (C := RX11) (T := TX11) (N := 14) rfl inlX11 (by decide) mw_2_14 (fun _ _ _ _ h9 => h9) hf (by decide) rfl dX11_split_135  (fun v28 hf => ?_)
      refine z_iload_n 1 dX11_split_138 rfl rfl ?_
      refine z_aI hf dX11_split_139  (fun v29 hf => ?_)
      refine z_isub dX11_split_140 ?_
      obtain ⟨v30, ev30, hf⟩ := ob hf
      refine z_cVv (ci := 8) (T := TX8) (N := 2) (As := [.int l2, .int (1 : Int32), .int (v27 - v29)]) (rest := []) (zm_X8_put ev30).2 (zm_X8_put ev30).1 (by decide) rfl (Or.inl rfl) mw_12_22 mw_12_23 mw_13_0 mw_3_13 mw_13_1 yk_X8_put (by decide) (by decide) rfl (Nat.le_of_ble_eq_true rfl) rfl dX11_split_141 ?_
      refine z_aload_n 0 dX11_split_144 rfl rfl ?_
      refine z_gP (ci := 11) (k := 1) (C := RX11) (T := TX11) (N := 14) rfl inlX11 (by decide) mw_1_19 (fun _ _ _ _ h9 => h9) hf (by decide) rfl dX11_split_145  (fun v31 hf => ?_)
      refine z_gP (ci := 1) (k := 3) (C := RX1) (T := TX1) (N := 8) rfl inlX1 (by decide) mw_29_16 (fun _ _ _ _ h9 => h9) hf (by decide) rfl dX11_split_148  (fun v32 hf => ?_)
      refine z_iload_n 1 dX11_split_151 rfl rfl ?_
      refine z_iconst 4 4 dX11_split_152 (by decide) ?_
      refine z_aload_n 0 dX11_split_153 rfl rfl ?_
      refine z_gP (ci := 11) (k := 10) (C := RX11) (T := TX11) (N := 14) rfl inlX11 (by decide) mw_2_16 (fun _ _ _ _ h9 => h9) hf (by decide) rfl dX11_split_154  (fun v33 hf => ?_)
      refine z_iload_n 1 dX11_split_157 rfl rfl ?_
      refine z_aI hf dX11_split_158  (fun v34 hf => ?_)
      obtain ⟨v35, ev35, hf⟩ := ob hf
      refine z_cVv (ci := 8) (T := TX8) (N := 2) (As := [.int l2, .int (4 : Int32), .int v34]) (rest := []) (zm_X8_put ev35).2 (zm_X8_put ev35).1 (by decide) rfl (Or.inl rfl) mw_12_22 mw_12_23 mw_13_0 mw_3_13 mw_13_1 yk_X8_put (by decide) (by decide) rfl (Nat.le_of_ble_eq_true rfl) rfl dX11_split_159 ?_
      exact zb_X11_split_162 hE hk68 hq68 hf
set_option maxRecDepth 20000 in
theorem zb_X11_split_68 {N : Nat} {r : Int32 × AS} {E : EV} (hE : TG E (some (.int r.1)) r.2)   : ∀ (n : Nat) (l0 : Nat) (l2 : Int32) (s : AS), f_X11_split_68 N n l0 l2 s = some r → Z E yX11_split cX11_split 3 (some .int) 6 s 68 [(0, .ref l0), (2, .int l2)] [] := by
  intro n
  induction n with
  | zero => intro l0 l2 s hf; cases hf
  | succ n ih => intro l0 l2 s hf; exact zg_X11_split_68 hE ih (le_X11_split_68 n) hf
set_option maxRecDepth 20000 in
theorem le_X11_split_66 {N : Nat} {r : Int32 × AS}  {l0 : Nat} {s : AS} (hf : f_X11_split_66 N l0 s = some r) : Le s r.2 := by
  unfold f_X11_split_66 at hf
  exact Le.via (le_X11_split_68 N _ _ _ hf) rfl
set_option maxRecDepth 20000 in
theorem zb_X11_split_66 {N : Nat} {r : Int32 × AS} {E : EV} (hE : TG E (some (.int r.1)) r.2)   {l0 : Nat} {s : AS} (hf : f_X11_split_66 N l0 s = some r) : Z E yX11_split cX11_split 3 (some .int) 6 s 66 [(0, .ref l0)] [] := by
  unfold f_X11_split_66 at hf
  refine z_iconst 0 0 dX11_split_66 (by decide) ?_
  refine z_istore_n [(2, .int (0 : Int32)), (0, .ref l0)] dX11_split_67 rfl (by decide) rfl ?_
  refine z_lv [(0, .ref l0), (2, .int (0 : Int32))] [1, 0] rfl ?_
  exact zb_X11_split_68 hE N _ _ _ hf
set_option maxRecDepth 20000 in
theorem le_X11_split_42 {N : Nat} {r : Int32 × AS}  {l0 : Nat} {l1 : Int32} {s : AS} (hf : f_X11_split_42 N l0 l1 s = some r) : Le s r.2 := by
  unfold f_X11_split_42 at hf
  obtain ⟨v7, -, hf⟩ := ob hf
  obtain ⟨v8, -, hf⟩ := ob hf
  obtain ⟨v9, -, hf⟩ := ob hf
  refine ite_c hf (fun hf => ?_) (fun hf => ?_)
  · obtain ⟨v10, ev10, hf⟩ := ob hf
    refine Le.of (t := (s.1, s.2)) rfl ((lm_X11_change ev10).tr ?_)
    exact Le.via (le_X11_split_66 hf) rfl
  · obtain ⟨v11, -, hf⟩ := ob hf
    cases hf
    exact Le.rf
set_option maxRecDepth 20000 in
theorem zb_X11_split_42 {N : Nat} {r : Int32 × AS} {E : EV} (hE : TG E (some (.int r.1)) r.2)   {l0 : Nat} {l1 : Int32} {s : AS} (hf : f_X11_split_42 N l0 l1 s = some r) : Z E yX11_split cX11_split 3 (some .int) 6 s 42 [(0, .ref l0), (1, .int l1)] [] := by
  unfold f_X11_split_42 at hf
  refine z_iload_n 1 dX11_split_42 rfl rfl ?_
  refine z_aload_n 0 dX11_split_43 rfl rfl ?_
  refine z_gP (ci := 11) (k := 1) (C := RX11) (T := TX11) (N := 14) rfl inlX11 (by decide) mw_1_19 (fun _ _ _ _ h9 => h9) hf (by decide) rfl dX11_split_44  (fun v7 hf => ?_)
  refine z_gP (ci := 1) (k := 4) (C := RX1) (T := TX1) (N := 8) rfl inlX1 (by decide) mw_43_7 (fun _ _ _ _ h9 => h9) hf (by decide) rfl dX11_split_47  (fun v8 hf => ?_)
  refine z_gI (ci := 8) (k := 1) (C := RX8) (T := TX8) (N := 2) rfl inlX8 (by decide) mw_12_13 (fun _ _ _ _ h9 => h9) hf (by decide) rfl dX11_split_50  (fun v9 hf => ?_)
  refine z_icmp_ge 62 hf dX11_split_53 (by decide) (fun hf => ?_) (fun hf => ?_)
  · refine z_aload_n 0 dX11_split_62 rfl rfl ?_
    obtain ⟨v10, ev10, hf⟩ := ob hf
    refine z_cVv (ci := 11) (T := TX11) (N := 14) (As := []) (rest := []) (zm_X11_change ev10).2 (zm_X11_change ev10).1 (by decide) rfl (Or.inr (tg_le hE (le_X11_split_66 hf))) mw_8_7 mw_8_8 mw_8_9 mw_1_2 mw_8_10 yk_X11_change (by decide) (by decide) rfl (Nat.le_of_ble_eq_true rfl) rfl dX11_split_63 ?_
    refine z_lv [(0, .ref l0)] [0] rfl ?_
    exact zb_X11_split_66 hE hf
  · refine z_aload_n 0 dX11_split_56 rfl rfl ?_
    refine z_iconst 0 0 dX11_split_57 (by decide) ?_
    obtain ⟨v11, ev11, hf⟩ := ob hf
    refine z_cVi (ci := 11) (T := TX11) (N := 14) (As := [.int (0 : Int32)]) (rest := []) (zm_X11_answer ev11).2 (zm_X11_answer ev11).1 (by decide) rfl (Or.inl rfl) mw_11_2 mw_11_3 mw_11_4 mw_1_2 mw_11_5 yk_X11_answer (by decide) (by decide) rfl (Nat.le_of_ble_eq_true rfl) rfl dX11_split_58 ?_
    cases hf
    exact z_ireturn hE rfl dX11_split_61
set_option maxRecDepth 20000 in
theorem le_X11_split_36 {N : Nat} {k4 : Nat → Int32 → Int32 → AS → Option (Int32 × AS)} {r : Int32 × AS} (hk4 : ∀ (l0 : Nat) (l1 : Int32) (l2 : Int32) (s : AS), k4 l0 l1 l2 s = some r → Le s r.2) {l0 : Nat} {l1 : Int32} {l2 : Int32} {s : AS} (hf : f_X11_split_36 N k4 l0 l1 l2 s = some r) : Le s r.2 := by
  unfold f_X11_split_36 at hf
  exact Le.via (hk4 _ _ _ _ hf) rfl
set_option maxRecDepth 20000 in
theorem zb_X11_split_36 {N : Nat} {k4 : Nat → Int32 → Int32 → AS → Option (Int32 × AS)} {r : Int32 × AS} {E : EV} (hE : TG E (some (.int r.1)) r.2) (hk4 : ∀ (l0 : Nat) (l1 : Int32) (l2 : Int32) (s : AS), k4 l0 l1 l2 s = some r → Z E yX11_split cX11_split 3 (some .int) 6 s 4 [(0, .ref l0), (1, .int l1), (2, .int l2)] []) (hq4 : ∀ (l0 : Nat) (l1 : Int32) (l2 : Int32) (s : AS), k4 l0 l1 l2 s = some r → Le s r.2) {l0 : Nat} {l1 : Int32} {l2 : Int32} {s : AS} (hf : f_X11_split_36 N k4 l0 l1 l2 s = some r) : Z E yX11_split cX11_split 3 (some .int) 6 s 36 [(0, .ref l0), (1, .int l1), (2, .int l2)] [] := by
  unfold f_X11_split_36 at hf
  refine z_iinc [(2, .int (l2 + 1)), (0, .ref l0), (1, .int l1)] 2 (l2 + 1) dX11_split_36 rfl rfl (by decide) rfl ?_
  refine z_goto 4 dX11_split_39 (by decide) ?_
  refine z_lv [(0, .ref l0), (1, .int l1), (2, .int (l2 + 1))] [1, 2, 0] rfl ?_
  exact hk4 _ _ _ _ hf
set_option maxRecDepth 20000 in
theorem lg_X11_split_4 {N : Nat} {r : Int32 × AS} {k4 : Nat → Int32 → Int32 → AS → Option (Int32 × AS)}  (hk4 : ∀ (l0 : Nat) (l1 : Int32) (l2 : Int32) (s : AS), k4 l0 l1 l2 s = some r → Le s r.2) {l0 : Nat} {l1 : Int32} {l2 : Int32} {s : AS} (hf : g_X11_split_4 N k4 l0 l1 l2 s = some r) : Le s r.2 := by
  unfold g_X11_split_4 at hf
  obtain ⟨v1, -, hf⟩ := ob hf
  obtain ⟨v2, -, hf⟩ := ob hf
  obtain ⟨v3, -, hf⟩ := ob hf
  refine ite_c hf (fun hf => ?_) (fun hf => ?_)
  · exact Le.via (le_X11_split_42 hf) rfl
  · obtain ⟨v4, -, hf⟩ := ob hf
    obtain ⟨v5, -, hf⟩ := ob hf
    refine ite_c hf (fun hf => ?_) (fun hf => ?_)
    · exact Le.via (le_X11_split_36 hk4 hf) rfl
    · obtain ⟨v6, -, hf⟩ := ob hf
      exact Le.via (le_X11_split_36 hk4 hf) rfl
set_option maxRecDepth 20000 in
theorem le_X11_split_4 {N : Nat} {r : Int32 × AS}  : ∀ (n : Nat) (l0 : Nat) (l1 : Int32) (l2 : Int32) (s : AS), f_X11_split_4 N n l0 l1 l2 s = some r → Le s r.2 := by
  intro n
  induction n with
  | zero => intro l0 l1 l2 s hf; cases hf
  | succ n ih => intro l0 l1 l2 s hf; exact lg_X11_split_4 ih hf
set_option maxRecDepth 20000 in
theorem zg_X11_split_4 {N : Nat} {r : Int32 × AS} {k4 : Nat → Int32 → Int32 → AS → Option (Int32 × AS)} {E : EV} (hE : TG E (some (.int r.1)) r.2)   (hk4 : ∀ (l0 : Nat) (l1 : Int32) (l2 : Int32) (s : AS), k4 l0 l1 l2 s = some r → Z E yX11_split cX11_split 3 (some .int) 6 s 4 [(0, .ref l0), (1, .int l1), (2, .int l2)] []) (hq4 : ∀ (l0 : Nat) (l1 : Int32) (l2 : Int32) (s : AS), k4 l0 l1 l2 s = some r → Le s r.2) {l0 : Nat} {l1 : Int32} {l2 : Int32} {s : AS} (hf : g_X11_split_4 N k4 l0 l1 l2 s = some r) : Z E yX11_split cX11_split 3 (some .int) 6 s 4 [(0, .ref l0), (1, .int l1), (2, .int l2)] [] := by
  unfold g_X11_split_4 at hf
  refine z_iload_n 2 dX11_split_4 rfl rfl ?_
  refine z_aload_n 0 dX11_split_5 rfl rfl ?_
  refine z_gP (ci := 11) (k := 1) (C := RX11) (T := TX11) (N := 14) rfl inlX11 (by decide) mw_1_19 (fun _ _ _ _ h9 => h9) hf (by decide) rfl dX11_split_6  (fun v1 hf => ?_)
  refine z_gP (ci := 1) (k := 3) (C := RX1) (T := TX1) (N := 8) rfl inlX1 (by decide) mw_29_16 (fun _ _ _ _ h9 => h9) hf (by decide) rfl dX11_split_9  (fun v2 hf => ?_)
  refine z_gI (ci := 8) (k := 1) (C := RX8) (T := TX8) (N := 2) rfl inlX8 (by decide) mw_12_13 (fun _ _ _ _ h9 => h9) hf (by decide) rfl dX11_split_12  (fun v3 hf => ?_)
  refine z_icmp_ge 42 hf dX11_split_15 (by decide) (fun hf => ?_) (fun hf => ?_)
  · refine z_lv [(0, .ref l0), (1, .int l1)] [0, 1] rfl ?_
    exact zb_X11_split_42 hE hf
  · refine z_aload_n 0 dX11_split_18 rfl rfl ?_
    refine z_gP (ci := 11) (k := 1) (C := RX11) (T := TX11) (N := 14) rfl inlX11 (by decide) mw_1_19 (fun _ _ _ _ h9 => h9) hf (by decide) rfl dX11_split_19  (fun v4 hf => ?_)
    refine z_iload_n 2 dX11_split_22 rfl rfl ?_
    obtain ⟨v5, ev5, hf⟩ := ob hf
    refine z_cVi (ci := 1) (T := TX1) (N := 8) (As := [.int l2]) (rest := []) (zm_X1_isOut ev5).2 (zm_X1_isOut ev5).1 (by decide) rfl (Or.inl rfl) mw_31_22 mw_31_23 mw_32_0 mw_1_18 mw_32_1 yk_X1_isOut (by decide) (by decide) rfl (Nat.le_of_ble_eq_true rfl) rfl dX11_split_23 ?_
    refine z_if_ne 36 hf dX11_split_26 (by decide) (fun hf => ?_) (fun hf => ?_)
    · exact zb_X11_split_36 hE hk4 hq4 hf
    · refine z_aload_n 0 dX11_split_29 rfl rfl ?_
      refine z_iload_n 2 dX11_split_30 rfl rfl ?_
      refine z_iload_n 1 dX11_split_31 rfl rfl ?_
      obtain ⟨v6, ev6, hf⟩ := ob hf
      refine z_cVi (ci := 11) (T := TX11) (N := 14) (As := [.int l2, .int l1]) (rest := []) (zm_X11_takeDrives ev6).2 (zm_X11_takeDrives ev6).1 (by decide) rfl (Or.inl rfl) mw_52_23 mw_53_0 mw_53_1 mw_1_2 mw_53_2 yk_X11_takeDrives (by decide) (by decide) rfl (Nat.le_of_ble_eq_true rfl) rfl dX11_split_32 ?_
      refine z_istore_n [(1, .int v6.1), (0, .ref l0), (2, .int l2)] dX11_split_35 rfl (by decide) rfl ?_
      refine z_lv [(0, .ref l0), (1, .int v6.1), (2, .int l2)] [1, 0, 2] rfl ?_
      exact zb_X11_split_36 hE hk4 hq4 hf
set_option maxRecDepth 20000 in
theorem zb_X11_split_4 {N : Nat} {r : Int32 × AS} {E : EV} (hE : TG E (some (.int r.1)) r.2)   : ∀ (n : Nat) (l0 : Nat) (l1 : Int32) (l2 : Int32) (s : AS), f_X11_split_4 N n l0 l1 l2 s = some r → Z E yX11_split cX11_split 3 (some .int) 6 s 4 [(0, .ref l0), (1, .int l1), (2, .int l2)] [] := by
  intro n
  induction n with
  | zero => intro l0 l1 l2 s hf; cases hf
  | succ n ih => intro l0 l1 l2 s hf; exact zg_X11_split_4 hE ih (le_X11_split_4 n) hf
set_option maxRecDepth 20000 in
theorem lm_X11_split {N : Nat} {s : AS} {l0 : Nat} {r : Int32 × AS} (hf : f_X11_split N l0 s = some r) : Le s r.2 := by
  unfold f_X11_split at hf
  refine ite_c hf (fun hf => ?_) (fun hf => ?_)
  · skip
    exact Le.via (le_X11_split_4 N _ _ _ _ hf) rfl
  · cases hf
set_option maxRecDepth 20000 in
theorem zm_X11_split {N : Nat} {s : AS} {l0 : Nat} {r : Int32 × AS} (hf : f_X11_split N l0 s = some r) : isO s.1 l0 11 ∧ ∀ (l : Launch) (G : GG), Mt l G yX11_split cX11_split 3 (some .int) 6 [.ref l0] s (some (.int r.1)) r.2 := by
  have hf0 := hf
  unfold f_X11_split at hf
  refine ite_d hf (fun hO hf => ?_) (fun _ hf => ?_)
  · refine ⟨hO, fun l G => mt_of (Or.inl (by decide)) (Nat.le_of_ble_eq_true rfl) (lm_X11_split hf0) (fun E hE => ?_)⟩
    show Z E yX11_split cX11_split 3 (some .int) 6 s 0 [(0, .ref l0)] []
    refine z_iconst 0 0 dX11_split_0 (by decide) ?_
    refine z_istore_n [(1, .int (0 : Int32)), (0, .ref l0)] dX11_split_1 rfl (by decide) rfl ?_
    refine z_iconst 0 0 dX11_split_2 (by decide) ?_
    refine z_istore_n [(2, .int (0 : Int32)), (1, .int (0 : Int32)), (0, .ref l0)] dX11_split_3 rfl (by decide) rfl ?_
    refine z_lv [(0, .ref l0), (1, .int (0 : Int32)), (2, .int (0 : Int32))] [2, 1, 0] rfl ?_
    exact zb_X11_split_4 hE N _ _ _ _ hf
  · cases hf
set_option maxRecDepth 20000 in
theorem zm_X11_status {N : Nat} {sh : Sh} {d : Dt} {l0 : Nat} {r : Int32} (hf : f_X11_status N sh l0 d = some r) : isO sh l0 11 ∧ ∀ (l : Launch) (G : GG), Mt l G yX11_status cX11_status 1 (some .int) 1 [.ref l0] (sh, d) (some (.int r)) (sh, d) := by
  have hf0 := hf
  unfold f_X11_status at hf
  refine ite_d hf (fun hO hf => ?_) (fun _ hf => ?_)
  · refine ⟨hO, fun l G => mt_of (Or.inl (by decide)) (Nat.le_of_ble_eq_true rfl) Le.rf (fun E hE => ?_)⟩
    show Z E yX11_status cX11_status 1 (some .int) 1 (sh, d) 0 [(0, .ref l0)] []
    refine z_aload_n 0 dX11_status_0 rfl rfl ?_
    refine z_gP (ci := 11) (k := 0) (C := RX11) (T := TX11) (N := 14) rfl inlX11 (by decide) mw_1_15 (fun _ _ _ _ h9 => h9) hf (by decide) rfl dX11_status_1  (fun v1 hf => ?_)
    refine z_gI (ci := 2) (k := 1) (C := RX2) (T := TX2) (N := 4) rfl inlX2 (by decide) mw_8_2 (fun _ _ _ _ h9 => h9) hf (by decide) rfl dX11_status_4  (fun v2 hf => ?_)
    cases hf
    exact z_ireturn hE rfl dX11_status_7
  · cases hf
set_option maxRecDepth 20000 in
theorem le_X11_street_39 {N : Nat} {r : Int32 × AS}  {l0 : Nat} {s : AS} (hf : f_X11_street_39 N l0 s = some r) : Le s r.2 := by
  unfold f_X11_street_39 at hf
  obtain ⟨v10, -, hf⟩ := ob hf
  cases hf
  exact Le.rf
set_option maxRecDepth 20000 in
theorem zb_X11_street_39 {N : Nat} {r : Int32 × AS} {E : EV} (hE : TG E (some (.int r.1)) r.2)   {l0 : Nat} {s : AS} (hf : f_X11_street_39 N l0 s = some r) : Z E yX11_street cX11_street 6 (some .int) 6 s 39 [(0, .ref l0)] [] := by
  unfold f_X11_street_39 at hf
  refine z_aload_n 0 dX11_street_39 rfl rfl ?_
  refine z_bipush (-2) (-2) dX11_street_40 (by decide) ?_
  obtain ⟨v10, ev10, hf⟩ := ob hf
  refine z_cVi (ci := 11) (T := TX11) (N := 14) (As := [.int (-2 : Int32)]) (rest := []) (zm_X11_refuse ev10).2 (zm_X11_refuse ev10).1 (by decide) rfl (Or.inl rfl) mw_7_22 mw_7_23 mw_8_0 mw_1_2 mw_8_1 yk_X11_refuse (by decide) (by decide) rfl (Nat.le_of_ble_eq_true rfl) rfl dX11_street_42 ?_
  cases hf
  exact z_ireturn hE rfl dX11_street_45
set_option maxRecDepth 20000 in
theorem le_X11_street_119 {N : Nat} {r : Int32 × AS}  {l0 : Nat} {l1 : Int32} {l2 : Int32} {l3 : Int32} {l5 : Int32} {t0 : Nat} {t1 : Int32} {t2 : Int32} {t3 : Int32} {s : AS} (hf : f_X11_street_119 N l0 l1 l2 l3 l5 t0 t1 t2 t3 s = some r) : Le s r.2 := by
  unfold f_X11_street_119 at hf
  obtain ⟨v19, -, hf⟩ := ob hf
  obtain ⟨v20, -, hf⟩ := ob hf
  obtain ⟨v21, -, hf⟩ := ob hf
  obtain ⟨v22, -, hf⟩ := ob hf
  obtain ⟨v23, -, hf⟩ := ob hf
  obtain ⟨v24, -, hf⟩ := ob hf
  obtain ⟨v25, -, hf⟩ := ob hf
  obtain ⟨v26, -, hf⟩ := ob hf
  obtain ⟨v27, -, hf⟩ := ob hf
  obtain ⟨v28, -, hf⟩ := ob hf
  obtain ⟨v29, -, hf⟩ := ob hf
  cases hf
  exact Le.rf
set_option maxRecDepth 20000 in
theorem zb_X11_street_119 {N : Nat} {r : Int32 × AS} {E : EV} (hE : TG E (some (.int r.1)) r.2)   {l0 : Nat} {l1 : Int32} {l2 : Int32} {l3 : Int32} {l5 : Int32} {t0 : Nat} {t1 : Int32} {t2 : Int32} {t3 : Int32} {s : AS} (hf : f_X11_street_119 N l0 l1 l2 l3 l5 t0 t1 t2 t3 s = some r) : Z E yX11_street cX11_street 6 (some .int) 6 s 119 [(0, .ref l0), (1, .int l1), (2, .int l2), (3, .int l3), (5, .int l5)] [.int t3, .int t2, .int t1, .ref t0] := by
  unfold f_X11_street_119 at hf
  obtain ⟨v19, ev19, hf⟩ := ob hf
  refine z_cVv (ci := 8) (T := TX8) (N := 2) (As := [.int t1, .int t2, .int t3]) (rest := []) (zm_X8_put ev19).2 (zm_X8_put ev19).1 (by decide) rfl (Or.inl rfl) mw_12_22 mw_12_23 mw_13_0 mw_3_13 mw_13_1 yk_X8_put (by decide) (by decide) rfl (Nat.le_of_ble_eq_true rfl) rfl dX11_street_119 ?_
  refine z_aload_n 0 dX11_street_122 rfl rfl ?_
  refine z_gP (ci := 11) (k := 1) (C := RX11) (T := TX11) (N := 14) rfl inlX11 (by decide) mw_1_19 (fun _ _ _ _ h9 => h9) hf (by decide) rfl dX11_street_123  (fun v20 hf => ?_)
  refine z_gP (ci := 1) (k := 1) (C := RX1) (T := TX1) (N := 8) rfl inlX1 (by decide) mw_12_12 (fun _ _ _ _ h9 => h9) hf (by decide) rfl dX11_street_126  (fun v21 hf => ?_)
  refine z_iload 4 dX11_street_129 rfl ?_
  refine z_bipush 6 6 dX11_street_131 (by decide) ?_
  refine z_iload_n 3 dX11_street_133 rfl rfl ?_
  obtain ⟨v22, ev22, hf⟩ := ob hf
  refine z_cVv (ci := 8) (T := TX8) (N := 2) (As := [.int l5, .int (6 : Int32), .int l3]) (rest := []) (zm_X8_put ev22).2 (zm_X8_put ev22).1 (by decide) rfl (Or.inl rfl) mw_12_22 mw_12_23 mw_13_0 mw_3_13 mw_13_1 yk_X8_put (by decide) (by decide) rfl (Nat.le_of_ble_eq_true rfl) rfl dX11_street_134 ?_
  refine z_aload_n 0 dX11_street_137 rfl rfl ?_
  refine z_gP (ci := 11) (k := 1) (C := RX11) (T := TX11) (N := 14) rfl inlX11 (by decide) mw_1_19 (fun _ _ _ _ h9 => h9) hf (by decide) rfl dX11_street_138  (fun v23 hf => ?_)
  refine z_gP (ci := 1) (k := 1) (C := RX1) (T := TX1) (N := 8) rfl inlX1 (by decide) mw_12_12 (fun _ _ _ _ h9 => h9) hf (by decide) rfl dX11_street_141  (fun v24 hf => ?_)
  refine z_iload 4 dX11_street_144 rfl ?_
  refine z_bipush 7 7 dX11_street_146 (by decide) ?_
  refine z_iload_n 1 dX11_street_148 rfl rfl ?_
  obtain ⟨v25, ev25, hf⟩ := ob hf
  refine z_cVv (ci := 8) (T := TX8) (N := 2) (As := [.int l5, .int (7 : Int32), .int l1]) (rest := []) (zm_X8_put ev25).2 (zm_X8_put ev25).1 (by decide) rfl (Or.inl rfl) mw_12_22 mw_12_23 mw_13_0 mw_3_13 mw_13_1 yk_X8_put (by decide) (by decide) rfl (Nat.le_of_ble_eq_true rfl) rfl dX11_street_149 ?_
  refine z_aload_n 0 dX11_street_152 rfl rfl ?_
  refine z_gP (ci := 11) (k := 1) (C := RX11) (T := TX11) (N := 14) rfl inlX11 (by decide) mw_1_19 (fun _ _ _ _ h9 => h9) hf (by decide) rfl dX11_street_153  (fun v26 hf => ?_)
  refine z_gP (ci := 1) (k := 1) (C := RX1) (T := TX1) (N := 8) rfl inlX1 (by decide) mw_12_12 (fun _ _ _ _ h9 => h9) hf (by decide) rfl dX11_street_156  (fun v27 hf => ?_)
  refine z_iload 4 dX11_street_159 rfl ?_
  refine z_bipush 8 8 dX11_street_161 (by decide) ?_
  refine z_iload_n 2 dX11_street_163 rfl rfl ?_
  obtain ⟨v28, ev28, hf⟩ := ob hf
  refine z_cVv (ci := 8) (T := TX8) (N := 2) (As := [.int l5, .int (8 : Int32), .int l2]) (rest := []) (zm_X8_put ev28).2 (zm_X8_put ev28).1 (by decide) rfl (Or.inl rfl) mw_12_22 mw_12_23 mw_13_0 mw_3_13 mw_13_1 yk_X8_put (by decide) (by decide) rfl (Nat.le_of_ble_eq_true rfl) rfl dX11_street_164 ?_
  refine z_aload_n 0 dX11_street_167 rfl rfl ?_
  refine z_iload 4 dX11_street_168 rfl ?_
  obtain ⟨v29, ev29, hf⟩ := ob hf
  refine z_cVi (ci := 11) (T := TX11) (N := 14) (As := [.int l5]) (rest := []) (zm_X11_answer ev29).2 (zm_X11_answer ev29).1 (by decide) rfl (Or.inl rfl) mw_11_2 mw_11_3 mw_11_4 mw_1_2 mw_11_5 yk_X11_answer (by decide) (by decide) rfl (Nat.le_of_ble_eq_true rfl) rfl dX11_street_170 ?_
  cases hf
  exact z_ireturn hE rfl dX11_street_173
set_option maxRecDepth 20000 in
theorem le_X11_street_83 {N : Nat} {r : Int32 × AS}  {l0 : Nat} {l1 : Int32} {l2 : Int32} {l3 : Int32} {l4 : Int32} {t0 : Int32} {s : AS} (hf : f_X11_street_83 N l0 l1 l2 l3 l4 t0 s = some r) : Le s r.2 := by
  unfold f_X11_street_83 at hf
  obtain ⟨v14, -, hf⟩ := ob hf
  obtain ⟨v15, -, hf⟩ := ob hf
  obtain ⟨v16, -, hf⟩ := ob hf
  obtain ⟨v17, -, hf⟩ := ob hf
  obtain ⟨v18, -, hf⟩ := ob hf
  refine ite_c hf (fun hf => ?_) (fun hf => ?_)
  · exact Le.via (le_X11_street_119 hf) rfl
  · exact Le.via (le_X11_street_119 hf) rfl
set_option maxRecDepth 20000 in
theorem zb_X11_street_83 {N : Nat} {r : Int32 × AS} {E : EV} (hE : TG E (some (.int r.1)) r.2)   {l0 : Nat} {l1 : Int32} {l2 : Int32} {l3 : Int32} {l4 : Int32} {t0 : Int32} {s : AS} (hf : f_X11_street_83 N l0 l1 l2 l3 l4 t0 s = some r) : Z E yX11_street cX11_street 6 (some .int) 6 s 83 [(0, .ref l0), (1, .int l1), (2, .int l2), (3, .int l3), (4, .int l4)] [.int t0] := by
  unfold f_X11_street_83 at hf
  refine z_istore [(5, .int t0), (0, .ref l0), (1, .int l1), (2, .int l2), (3, .int l3), (4, .int l4)] dX11_street_83 (by decide) rfl ?_
  refine z_aload_n 1 dX11_street_85 rfl rfl ?_
  refine z_gP (ci := 11) (k := 1) (C := RX11) (T := TX11) (N := 14) rfl inlX11 (by decide) mw_1_19 (fun _ _ _ _ h9 => h9) hf (by decide) rfl dX11_street_86  (fun v14 hf => ?_)
  refine z_gP (ci := 1) (k := 1) (C := RX1) (T := TX1) (N := 8) rfl inlX1 (by decide) mw_12_12 (fun _ _ _ _ h9 => h9) hf (by decide) rfl dX11_street_89  (fun v15 hf => ?_)
  refine z_iload 0 dX11_street_92 rfl ?_
  refine z_iconst 3 3 dX11_street_94 (by decide) ?_
  refine z_iconst 1 1 dX11_street_95 (by decide) ?_
  obtain ⟨v16, ev16, hf⟩ := ob hf
  refine z_cVv (ci := 8) (T := TX8) (N := 2) (As := [.int t0, .int (3 : Int32), .int (1 : Int32)]) (rest := []) (zm_X8_put ev16).2 (zm_X8_put ev16).1 (by decide) rfl (Or.inl rfl) mw_12_22 mw_12_23 mw_13_0 mw_3_13 mw_13_1 yk_X8_put (by decide) (by decide) rfl (Nat.le_of_ble_eq_true rfl) rfl dX11_street_96 ?_
  refine z_aload_n 1 dX11_street_99 rfl rfl ?_
  refine z_gP (ci := 11) (k := 1) (C := RX11) (T := TX11) (N := 14) rfl inlX11 (by decide) mw_1_19 (fun _ _ _ _ h9 => h9) hf (by decide) rfl dX11_street_100  (fun v17 hf => ?_)
  refine z_gP (ci := 1) (k := 1) (C := RX1) (T := TX1) (N := 8) rfl inlX1 (by decide) mw_12_12 (fun _ _ _ _ h9 => h9) hf (by decide) rfl dX11_street_103  (fun v18 hf => ?_)
  refine z_iload 0 dX11_street_106 rfl ?_
  refine z_iconst 5 5 dX11_street_108 (by decide) ?_
  refine z_iload 5 dX11_street_109 rfl ?_
  refine z_if_eq 118 hf dX11_street_111 (by decide) (fun hf => ?_) (fun hf => ?_)
  · refine z_iconst 0 0 dX11_street_118 (by decide) ?_
    refine z_lv [(0, .ref l0), (1, .int l1), (2, .int l2), (3, .int l3), (5, .int t0)] [1, 2, 3, 4, 0] rfl ?_
    exact zb_X11_street_119 hE hf
  · refine z_iconst 1 1 dX11_street_114 (by decide) ?_
    refine z_goto 119 dX11_street_115 (by decide) ?_
    refine z_lv [(0, .ref l0), (1, .int l1), (2, .int l2), (3, .int l3), (5, .int t0)] [1, 2, 3, 4, 0] rfl ?_
    exact zb_X11_street_119 hE hf
set_option maxRecDepth 20000 in
theorem le_X11_street_73 {N : Nat} {r : Int32 × AS}  {l0 : Nat} {l1 : Int32} {l2 : Int32} {l3 : Int32} {l4 : Int32} {s : AS} (hf : f_X11_street_73 N l0 l1 l2 l3 l4 s = some r) : Le s r.2 := by
  unfold f_X11_street_73 at hf
  obtain ⟨v11, -, hf⟩ := ob hf
  obtain ⟨v12, -, hf⟩ := ob hf
  obtain ⟨v13, ev13, hf⟩ := ob hf
  refine Le.of (t := (s.1, s.2)) rfl ((lm_X8_add ev13).tr ?_)
  exact Le.via (le_X11_street_83 hf) rfl
set_option maxRecDepth 20000 in
theorem zb_X11_street_73 {N : Nat} {r : Int32 × AS} {E : EV} (hE : TG E (some (.int r.1)) r.2)   {l0 : Nat} {l1 : Int32} {l2 : Int32} {l3 : Int32} {l4 : Int32} {s : AS} (hf : f_X11_street_73 N l0 l1 l2 l3 l4 s = some r) : Z E yX11_street cX11_street 6 (some .int) 6 s 73 [(0, .ref l0), (1, .int l1), (2, .int l2), (3, .int l3), (4, .int l4)] [] := by
  unfold f_X11_street_73 at hf
  refine z_aload_n 0 dX11_street_73 rfl rfl ?_
  refine z_gP (ci := 11) (k := 1) (C := RX11) (T := TX11) (N := 14) rfl inlX11 (by decide) mw_1_19 (fun _ _ _ _ h9 => h9) hf (by decide) rfl dX11_street_74  (fun v11 hf => ?_)
  refine z_gP (ci := 1) (k := 1) (C := RX1) (T := TX1) (N := 8) rfl inlX1 (by decide) mw_12_12 (fun _ _ _ _ h9 => h9) hf (by decide) rfl dX11_street_77  (fun v12 hf => ?_)
  obtain ⟨v13, ev13, hf⟩ := ob hf
  refine z_cVi (ci := 8) (T := TX8) (N := 2) (As := []) (rest := []) (zm_X8_add ev13).2 (zm_X8_add ev13).1 (by decide) rfl (Or.inr (tg_le hE (le_X11_street_83 hf))) mw_12_18 mw_12_19 mw_12_20 mw_3_13 mw_12_21 yk_X8_add (by decide) (by decide) rfl (Nat.le_of_ble_eq_true rfl) rfl dX11_street_80 ?_
  exact zb_X11_street_83 hE hf
set_option maxRecDepth 20000 in
theorem lm_X11_street {N : Nat} {s : AS} {l0 : Nat} {l1 : Int32} {l2 : Int32} {l3 : Int32} {l4 : Int32} {r : Int32 × AS} (hf : f_X11_street N l0 l1 l2 l3 l4 s = some r) : Le s r.2 := by
  unfold f_X11_street at hf
  refine ite_c hf (fun hf => ?_) (fun hf => ?_)
  · skip
    obtain ⟨v1, -, hf⟩ := ob hf
    obtain ⟨v2, -, hf⟩ := ob hf
    refine ite_c hf (fun hf => ?_) (fun hf => ?_)
    · exact Le.via (le_X11_street_39 hf) rfl
    · obtain ⟨v3, -, hf⟩ := ob hf
      obtain ⟨v4, -, hf⟩ := ob hf
      refine ite_c hf (fun hf => ?_) (fun hf => ?_)
      · exact Le.via (le_X11_street_39 hf) rfl
      · refine ite_c hf (fun hf => ?_) (fun hf => ?_)
        · exact Le.via (le_X11_street_39 hf) rfl
        · refine ite_c hf (fun hf => ?_) (fun hf => ?_)
          · exact Le.via (le_X11_street_39 hf) rfl
          · refine ite_c hf (fun hf => ?_) (fun hf => ?_)
            · obtain ⟨v5, -, hf⟩ := ob hf
              obtain ⟨v6, -, hf⟩ := ob hf
              obtain ⟨v7, -, hf⟩ := ob hf
              refine ite_c hf (fun hf => ?_) (fun hf => ?_)
              · obtain ⟨v8, ev8, hf⟩ := ob hf
                refine Le.of (t := (s.1, s.2)) rfl ((lm_X11_change ev8).tr ?_)
                exact Le.via (le_X11_street_73 hf) rfl
              · obtain ⟨v9, -, hf⟩ := ob hf
                cases hf
                exact Le.rf
            · exact Le.via (le_X11_street_39 hf) rfl
  · cases hf
set_option maxRecDepth 20000 in
theorem zm_X11_street {N : Nat} {s : AS} {l0 : Nat} {l1 : Int32} {l2 : Int32} {l3 : Int32} {l4 : Int32} {r : Int32 × AS} (hf : f_X11_street N l0 l1 l2 l3 l4 s = some r) : isO s.1 l0 11 ∧ ∀ (l : Launch) (G : GG), Mt l G yX11_street cX11_street 6 (some .int) 6 [.ref l0, .int l1, .int l2, .int l3, .int l4] s (some (.int r.1)) r.2 := by
  have hf0 := hf
  unfold f_X11_street at hf
  refine ite_d hf (fun hO hf => ?_) (fun _ hf => ?_)
  · refine ⟨hO, fun l G => mt_of (Or.inl (by decide)) (Nat.le_of_ble_eq_true rfl) (lm_X11_street hf0) (fun E hE => ?_)⟩
    show Z E yX11_street cX11_street 6 (some .int) 6 s 0 [(0, .ref l0), (1, .int l1), (2, .int l2), (3, .int l3), (4, .int l4)] []
    refine z_aload_n 0 dX11_street_0 rfl rfl ?_
    refine z_gP (ci := 11) (k := 1) (C := RX11) (T := TX11) (N := 14) rfl inlX11 (by decide) mw_1_19 (fun _ _ _ _ h9 => h9) hf (by decide) rfl dX11_street_1  (fun v1 hf => ?_)
    refine z_iload_n 1 dX11_street_4 rfl rfl ?_
    obtain ⟨v2, ev2, hf⟩ := ob hf
    refine z_cVi (ci := 1) (T := TX1) (N := 8) (As := [.int l1]) (rest := []) (zm_X1_hasCrossing ev2).2 (zm_X1_hasCrossing ev2).1 (by decide) rfl (Or.inl rfl) mw_12_14 mw_12_15 mw_12_16 mw_1_18 mw_12_17 yk_X1_hasCrossing (by decide) (by decide) rfl (Nat.le_of_ble_eq_true rfl) rfl dX11_street_5 ?_
    refine z_if_eq 39 hf dX11_street_8 (by decide) (fun hf => ?_) (fun hf => ?_)
    · refine z_lv [(0, .ref l0)] [0] rfl ?_
      exact zb_X11_street_39 hE hf
    · refine z_aload_n 0 dX11_street_11 rfl rfl ?_
      refine z_gP (ci := 11) (k := 1) (C := RX11) (T := TX11) (N := 14) rfl inlX11 (by decide) mw_1_19 (fun _ _ _ _ h9 => h9) hf (by decide) rfl dX11_street_12  (fun v3 hf => ?_)
      refine z_iload_n 2 dX11_street_15 rfl rfl ?_
      obtain ⟨v4, ev4, hf⟩ := ob hf
      refine z_cVi (ci := 1) (T := TX1) (N := 8) (As := [.int l2]) (rest := []) (zm_X1_hasCrossing ev4).2 (zm_X1_hasCrossing ev4).1 (by decide) rfl (Or.inl rfl) mw_12_14 mw_12_15 mw_12_16 mw_1_18 mw_12_17 yk_X1_hasCrossing (by decide) (by decide) rfl (Nat.le_of_ble_eq_true rfl) rfl dX11_street_16 ?_
      refine z_if_eq 39 hf dX11_street_19 (by decide) (fun hf => ?_) (fun hf => ?_)
      · refine z_lv [(0, .ref l0)] [0] rfl ?_
        exact zb_X11_street_39 hE hf
      · refine z_iload_n 1 dX11_street_22 rfl rfl ?_
        refine z_iload_n 2 dX11_street_23 rfl rfl ?_
        refine z_icmp_eq 39 hf dX11_street_24 (by decide) (fun hf => ?_) (fun hf => ?_)
        · refine z_lv [(0, .ref l0)] [0] rfl ?_
          exact zb_X11_street_39 hE hf
        · refine z_iload_n 3 dX11_street_27 rfl rfl ?_
          refine z_iconst 1 1 dX11_street_28 (by decide) ?_
          refine z_icmp_lt 39 hf dX11_street_29 (by decide) (fun hf => ?_) (fun hf => ?_)
          · refine z_lv [(0, .ref l0)] [0] rfl ?_
            exact zb_X11_street_39 hE hf
          · refine z_iload_n 3 dX11_street_32 rfl rfl ?_
            refine z_sipush 10000 10000 dX11_street_33 (by decide) ?_
            refine z_icmp_le 46 hf dX11_street_36 (by decide) (fun hf => ?_) (fun hf => ?_)
            · refine z_aload_n 0 dX11_street_46 rfl rfl ?_
              refine z_gP (ci := 11) (k := 1) (C := RX11) (T := TX11) (N := 14) rfl inlX11 (by decide) mw_1_19 (fun _ _ _ _ h9 => h9) hf (by decide) rfl dX11_street_47  (fun v5 hf => ?_)
              refine z_gP (ci := 1) (k := 1) (C := RX1) (T := TX1) (N := 8) rfl inlX1 (by decide) mw_12_12 (fun _ _ _ _ h9 => h9) hf (by decide) rfl dX11_street_50  (fun v6 hf => ?_)
              refine z_gI (ci := 8) (k := 1) (C := RX8) (T := TX8) (N := 2) rfl inlX8 (by decide) mw_12_13 (fun _ _ _ _ h9 => h9) hf (by decide) rfl dX11_street_53  (fun v7 hf => ?_)
              refine z_sipush 150 150 dX11_street_56 (by decide) ?_
              refine z_icmp_lt 69 hf dX11_street_59 (by decide) (fun hf => ?_) (fun hf => ?_)
              · refine z_aload_n 0 dX11_street_69 rfl rfl ?_
                obtain ⟨v8, ev8, hf⟩ := ob hf
                refine z_cVv (ci := 11) (T := TX11) (N := 14) (As := []) (rest := []) (zm_X11_change ev8).2 (zm_X11_change ev8).1 (by decide) rfl (Or.inr (tg_le hE (le_X11_street_73 hf))) mw_8_7 mw_8_8 mw_8_9 mw_1_2 mw_8_10 yk_X11_change (by decide) (by decide) rfl (Nat.le_of_ble_eq_true rfl) rfl dX11_street_70 ?_
                exact zb_X11_street_73 hE hf
              · refine z_aload_n 0 dX11_street_62 rfl rfl ?_
                refine z_bipush (-3) (-3) dX11_street_63 (by decide) ?_
                obtain ⟨v9, ev9, hf⟩ := ob hf
                refine z_cVi (ci := 11) (T := TX11) (N := 14) (As := [.int (-3 : Int32)]) (rest := []) (zm_X11_refuse ev9).2 (zm_X11_refuse ev9).1 (by decide) rfl (Or.inl rfl) mw_7_22 mw_7_23 mw_8_0 mw_1_2 mw_8_1 yk_X11_refuse (by decide) (by decide) rfl (Nat.le_of_ble_eq_true rfl) rfl dX11_street_65 ?_
                cases hf
                exact z_ireturn hE rfl dX11_street_68
            · refine z_lv [(0, .ref l0)] [0] rfl ?_
              exact zb_X11_street_39 hE hf
  · cases hf
set_option maxRecDepth 20000 in
theorem zb_X1_whoEndsAt_52 {N : Nat} {sh : Sh} {d : Dt} {r : Int32} {E : EV} (hE : TG E (some (.int r)) (sh, d))   (hf : f_X1_whoEndsAt_52 N sh  d = some r) : Z E yX1_whoEndsAt cX1_whoEndsAt 4 (some .int) 2 (sh, d) 52 [] [] := by
  unfold f_X1_whoEndsAt_52 at hf
  refine z_iconst (-1) (-1) dX1_whoEndsAt_52 (by decide) ?_
  cases hf
  exact z_ireturn hE rfl dX1_whoEndsAt_53
set_option maxRecDepth 20000 in
theorem zb_X1_whoEndsAt_46 {N : Nat} {sh : Sh} {d : Dt} {k2 : Nat → Int32 → Int32 → Option Int32} {r : Int32} {E : EV} (hE : TG E (some (.int r)) (sh, d)) (hk2 : ∀ (l0 : Nat) (l1 : Int32) (l2 : Int32), k2 l0 l1 l2 = some r → Z E yX1_whoEndsAt cX1_whoEndsAt 4 (some .int) 2 (sh, d) 2 [(0, .ref l0), (1, .int l1), (2, .int l2)] []) {l0 : Nat} {l1 : Int32} {l2 : Int32} (hf : f_X1_whoEndsAt_46 N sh k2 l0 l1 l2 d = some r) : Z E yX1_whoEndsAt cX1_whoEndsAt 4 (some .int) 2 (sh, d) 46 [(0, .ref l0), (1, .int l1), (2, .int l2)] [] := by
  unfold f_X1_whoEndsAt_46 at hf
  refine z_iinc [(2, .int (l2 + 1)), (0, .ref l0), (1, .int l1)] 2 (l2 + 1) dX1_whoEndsAt_46 rfl rfl (by decide) rfl ?_
  refine z_goto 2 dX1_whoEndsAt_49 (by decide) ?_
  refine z_lv [(0, .ref l0), (1, .int l1), (2, .int (l2 + 1))] [1, 2, 0] rfl ?_
  exact hk2 _ _ _ hf
set_option maxRecDepth 20000 in
theorem zb_X1_whoEndsAt_44 {N : Nat} {sh : Sh} {d : Dt} {r : Int32} {E : EV} (hE : TG E (some (.int r)) (sh, d))  {l2 : Int32} (hf : f_X1_whoEndsAt_44 N sh l2 d = some r) : Z E yX1_whoEndsAt cX1_whoEndsAt 4 (some .int) 2 (sh, d) 44 [(2, .int l2)] [] := by
  unfold f_X1_whoEndsAt_44 at hf
  refine z_iload_n 0 dX1_whoEndsAt_44 rfl rfl ?_
  cases hf
  exact z_ireturn hE rfl dX1_whoEndsAt_45
set_option maxRecDepth 20000 in
theorem zg_X1_whoEndsAt_2 {N : Nat} {sh : Sh} {d : Dt} {r : Int32} {k2 : Nat → Int32 → Int32 → Option Int32} {E : EV} (hE : TG E (some (.int r)) (sh, d))  (hk2 : ∀ (l0 : Nat) (l1 : Int32) (l2 : Int32), k2 l0 l1 l2 = some r → Z E yX1_whoEndsAt cX1_whoEndsAt 4 (some .int) 2 (sh, d) 2 [(0, .ref l0), (1, .int l1), (2, .int l2)] []) {l0 : Nat} {l1 : Int32} {l2 : Int32} (hf : g_X1_whoEndsAt_2 N sh k2 l0 l1 l2 d = some r) : Z E yX1_whoEndsAt cX1_whoEndsAt 4 (some .int) 2 (sh, d) 2 [(0, .ref l0), (1, .int l1), (2, .int l2)] [] := by
  unfold g_X1_whoEndsAt_2 at hf
  refine z_iload_n 2 dX1_whoEndsAt_2 rfl rfl ?_
  refine z_aload_n 0 dX1_whoEndsAt_3 rfl rfl ?_
  refine z_gP (ci := 1) (k := 3) (C := RX1) (T := TX1) (N := 8) rfl inlX1 (by decide) mw_3_16 (fun _ _ _ _ h9 => h9) hf (by decide) rfl dX1_whoEndsAt_4  (fun v1 hf => ?_)
  refine z_gI (ci := 8) (k := 1) (C := RX8) (T := TX8) (N := 2) rfl inlX8 (by decide) mw_8_19 (fun _ _ _ _ h9 => h9) hf (by decide) rfl dX1_whoEndsAt_7  (fun v2 hf => ?_)
  refine z_icmp_ge 52 hf dX1_whoEndsAt_10 (by decide) (fun hf => ?_) (fun hf => ?_)
  · refine z_lv [] [] rfl ?_
    exact zb_X1_whoEndsAt_52 hE hf
  · refine z_aload_n 0 dX1_whoEndsAt_13 rfl rfl ?_
    refine z_gP (ci := 1) (k := 3) (C := RX1) (T := TX1) (N := 8) rfl inlX1 (by decide) mw_3_16 (fun _ _ _ _ h9 => h9) hf (by decide) rfl dX1_whoEndsAt_14  (fun v3 hf => ?_)
    refine z_iload_n 2 dX1_whoEndsAt_17 rfl rfl ?_
    refine z_iconst 1 1 dX1_whoEndsAt_18 (by decide) ?_
    obtain ⟨v4, ev4, hf⟩ := ob hf
    refine z_cVi (ci := 8) (T := TX8) (N := 2) (As := [.int l2, .int (1 : Int32)]) (rest := []) (zm_X8_get ev4).2 (zm_X8_get ev4).1 (by decide) rfl (Or.inl rfl) mw_10_10 mw_10_11 mw_10_12 mw_3_13 mw_10_13 yk_X8_get (by decide) (by decide) rfl (Nat.le_of_ble_eq_true rfl) rfl dX1_whoEndsAt_19 ?_
    refine z_istore_n [(3, .int v4), (0, .ref l0), (1, .int l1), (2, .int l2)] dX1_whoEndsAt_22 rfl (by decide) rfl ?_
    refine z_iload_n 0 dX1_whoEndsAt_23 rfl rfl ?_
    refine z_if_le 46 hf dX1_whoEndsAt_24 (by decide) (fun hf => ?_) (fun hf => ?_)
    · refine z_lv [(0, .ref l0), (1, .int l1), (2, .int l2)] [1, 2, 3] rfl ?_
      exact zb_X1_whoEndsAt_46 hE hk2 hf
    · refine z_aload_n 1 dX1_whoEndsAt_27 rfl rfl ?_
      refine z_gP (ci := 1) (k := 3) (C := RX1) (T := TX1) (N := 8) rfl inlX1 (by decide) mw_3_16 (fun _ _ _ _ h9 => h9) hf (by decide) rfl dX1_whoEndsAt_28  (fun v5 hf => ?_)
      refine z_iload_n 3 dX1_whoEndsAt_31 rfl rfl ?_
      refine z_iconst 0 0 dX1_whoEndsAt_32 (by decide) ?_
      obtain ⟨v6, ev6, hf⟩ := ob hf
      refine z_cVi (ci := 8) (T := TX8) (N := 2) (As := [.int l2, .int (0 : Int32)]) (rest := []) (zm_X8_get ev6).2 (zm_X8_get ev6).1 (by decide) rfl (Or.inl rfl) mw_10_10 mw_10_11 mw_10_12 mw_3_13 mw_10_13 yk_X8_get (by decide) (by decide) rfl (Nat.le_of_ble_eq_true rfl) rfl dX1_whoEndsAt_33 ?_
      refine z_iload_n 0 dX1_whoEndsAt_36 rfl rfl ?_
      refine z_iadd dX1_whoEndsAt_37 ?_
      refine z_iconst 1 1 dX1_whoEndsAt_38 (by decide) ?_
      refine z_isub dX1_whoEndsAt_39 ?_
      refine z_iload_n 2 dX1_whoEndsAt_40 rfl rfl ?_
      refine z_icmp_ne 46 hf dX1_whoEndsAt_41 (by decide) (fun hf => ?_) (fun hf => ?_)
      · refine z_lv [(0, .ref l0), (1, .int l1), (2, .int l2)] [1, 2, 3] rfl ?_
        exact zb_X1_whoEndsAt_46 hE hk2 hf
      · refine z_lv [(2, .int l2)] [3] rfl ?_
        exact zb_X1_whoEndsAt_44 hE hf
set_option maxRecDepth 20000 in
theorem zb_X1_whoEndsAt_2 {N : Nat} {sh : Sh} {d : Dt} {r : Int32} {E : EV} (hE : TG E (some (.int r)) (sh, d))  : ∀ (n : Nat) (l0 : Nat) (l1 : Int32) (l2 : Int32), f_X1_whoEndsAt_2 N sh d n l0 l1 l2 = some r → Z E yX1_whoEndsAt cX1_whoEndsAt 4 (some .int) 2 (sh, d) 2 [(0, .ref l0), (1, .int l1), (2, .int l2)] [] := by
  intro n
  induction n with
  | zero => intro l0 l1 l2 hf; cases hf
  | succ n ih => intro l0 l1 l2 hf; exact zg_X1_whoEndsAt_2 hE ih hf
set_option maxRecDepth 20000 in
theorem zm_X1_whoEndsAt {N : Nat} {sh : Sh} {d : Dt} {l0 : Nat} {l1 : Int32} {r : Int32} (hf : f_X1_whoEndsAt N sh l0 l1 d = some r) : isO sh l0 1 ∧ ∀ (l : Launch) (G : GG), Mt l G yX1_whoEndsAt cX1_whoEndsAt 4 (some .int) 2 [.ref l0, .int l1] (sh, d) (some (.int r)) (sh, d) := by
  have hf0 := hf
  unfold f_X1_whoEndsAt at hf
  refine ite_d hf (fun hO hf => ?_) (fun _ hf => ?_)
  · refine ⟨hO, fun l G => mt_of (Or.inl (by decide)) (Nat.le_of_ble_eq_true rfl) Le.rf (fun E hE => ?_)⟩
    show Z E yX1_whoEndsAt cX1_whoEndsAt 4 (some .int) 2 (sh, d) 0 [(0, .ref l0), (1, .int l1)] []
    refine z_iconst 0 0 dX1_whoEndsAt_0 (by decide) ?_
    refine z_istore_n [(2, .int (0 : Int32)), (0, .ref l0), (1, .int l1)] dX1_whoEndsAt_1 rfl (by decide) rfl ?_
    refine z_lv [(0, .ref l0), (1, .int l1), (2, .int (0 : Int32))] [1, 2, 0] rfl ?_
    exact zb_X1_whoEndsAt_2 hE N _ _ _ hf
  · cases hf
set_option maxRecDepth 20000 in
theorem le_X11_write_165 {N : Nat} {r : Int32 × AS}   {s : AS} (hf : f_X11_write_165 N  s = some r) : Le s r.2 := by
  unfold f_X11_write_165 at hf
  cases hf
  exact Le.rf
set_option maxRecDepth 20000 in
theorem zb_X11_write_165 {N : Nat} {r : Int32 × AS} {E : EV} (hE : TG E (some (.int r.1)) r.2)    {s : AS} (hf : f_X11_write_165 N  s = some r) : Z E yX11_write cX11_write 5 (some .boolean) 3 s 165 [] [] := by
  unfold f_X11_write_165 at hf
  refine z_iconst 1 1 dX11_write_165 (by decide) ?_
  cases hf
  exact z_zreturn hE rfl (by decide) dX11_write_166
set_option maxRecDepth 20000 in
theorem le_X11_write_151 {N : Nat} {r : Int32 × AS}  {l0 : Nat} {l3 : Int32} {s : AS} (hf : f_X11_write_151 N l0 l3 s = some r) : Le s r.2 := by
  unfold f_X11_write_151 at hf
  refine ite_c hf (fun hf => ?_) (fun hf => ?_)
  · exact Le.via (le_X11_write_165 hf) rfl
  · obtain ⟨v18, ev18, hf⟩ := ob hf
    refine Le.of (t := (s.1, s.2)) rfl ((lm_X11_put ev18).tr ?_)
    exact Le.via (le_X11_write_165 hf) rfl
set_option maxRecDepth 20000 in
theorem zb_X11_write_151 {N : Nat} {r : Int32 × AS} {E : EV} (hE : TG E (some (.int r.1)) r.2)   {l0 : Nat} {l3 : Int32} {s : AS} (hf : f_X11_write_151 N l0 l3 s = some r) : Z E yX11_write cX11_write 5 (some .boolean) 3 s 151 [(0, .ref l0), (3, .int l3)] [] := by
  unfold f_X11_write_151 at hf
  refine z_iload_n 1 dX11_write_151 rfl rfl ?_
  refine z_iconst (-1) (-1) dX11_write_152 (by decide) ?_
  refine z_icmp_eq 165 hf dX11_write_153 (by decide) (fun hf => ?_) (fun hf => ?_)
  · refine z_lv [] [] rfl ?_
    exact zb_X11_write_165 hE hf
  · refine z_aload_n 0 dX11_write_156 rfl rfl ?_
    refine z_bipush 65 65 dX11_write_157 (by decide) ?_
    refine z_iload_n 1 dX11_write_159 rfl rfl ?_
    refine z_iadd dX11_write_160 ?_
    refine z_i2c dX11_write_161 ?_
    obtain ⟨v18, ev18, hf⟩ := ob hf
    refine z_cVv (ci := 11) (T := TX11) (N := 14) (As := [.int ((((65 : Int32) + l3).toUInt32 % 65536).toInt32)]) (rest := []) (zm_X11_put ev18).2 (zm_X11_put ev18).1 (by decide) rfl (Or.inr (tg_le hE (le_X11_write_165 hf))) mw_56_18 mw_56_19 mw_56_20 mw_1_2 mw_56_21 yk_X11_put (by decide) (by decide) rfl (Nat.le_of_ble_eq_true rfl) rfl dX11_write_162 ?_
    refine z_lv [] [] rfl ?_
    exact zb_X11_write_165 hE hf
set_option maxRecDepth 20000 in
theorem le_X11_write_139 {N : Nat} {r : Int32 × AS}  {l0 : Nat} {l2 : Int32} {l3 : Int32} {s : AS} (hf : f_X11_write_139 N l0 l2 l3 s = some r) : Le s r.2 := by
  unfold f_X11_write_139 at hf
  obtain ⟨v16, -, hf⟩ := ob hf
  obtain ⟨v17, ev17, hf⟩ := ob hf
  refine Le.of (t := (s.1, s.2)) rfl ((lm_X11_put ev17).tr ?_)
  exact Le.via (le_X11_write_151 hf) rfl
set_option maxRecDepth 20000 in
theorem zb_X11_write_139 {N : Nat} {r : Int32 × AS} {E : EV} (hE : TG E (some (.int r.1)) r.2)   {l0 : Nat} {l2 : Int32} {l3 : Int32} {s : AS} (hf : f_X11_write_139 N l0 l2 l3 s = some r) : Z E yX11_write cX11_write 5 (some .boolean) 3 s 139 [(0, .ref l0), (2, .int l2), (3, .int l3)] [] := by
  unfold f_X11_write_139 at hf
  refine z_aload_n 0 dX11_write_139 rfl rfl ?_
  refine z_bipush 48 48 dX11_write_140 (by decide) ?_
  refine z_iload_n 1 dX11_write_142 rfl rfl ?_
  refine z_bipush 10 10 dX11_write_143 (by decide) ?_
  refine z_irem hf dX11_write_145  (fun v16 hf => ?_)
  refine z_iadd dX11_write_146 ?_
  refine z_i2c dX11_write_147 ?_
  obtain ⟨v17, ev17, hf⟩ := ob hf
  refine z_cVv (ci := 11) (T := TX11) (N := 14) (As := [.int ((((48 : Int32) + v16).toUInt32 % 65536).toInt32)]) (rest := []) (zm_X11_put ev17).2 (zm_X11_put ev17).1 (by decide) rfl (Or.inr (tg_le hE (le_X11_write_151 hf))) mw_56_18 mw_56_19 mw_56_20 mw_1_2 mw_56_21 yk_X11_put (by decide) (by decide) rfl (Nat.le_of_ble_eq_true rfl) rfl dX11_write_148 ?_
  refine z_lv [(0, .ref l0), (3, .int l3)] [0, 2] rfl ?_
  exact zb_X11_write_151 hE hf
set_option maxRecDepth 20000 in
theorem le_X11_write_118 {N : Nat} {r : Int32 × AS}  {l0 : Nat} {l2 : Int32} {l3 : Int32} {l4 : Int32} {s : AS} (hf : f_X11_write_118 N l0 l2 l3 l4 s = some r) : Le s r.2 := by
  unfold f_X11_write_118 at hf
  refine ite_c hf (fun hf => ?_) (fun hf => ?_)
  · exact Le.via (le_X11_write_139 hf) rfl
  · obtain ⟨v13, -, hf⟩ := ob hf
    obtain ⟨v14, -, hf⟩ := ob hf
    obtain ⟨v15, ev15, hf⟩ := ob hf
    refine Le.of (t := (s.1, s.2)) rfl ((lm_X11_put ev15).tr ?_)
    exact Le.via (le_X11_write_139 hf) rfl
set_option maxRecDepth 20000 in
theorem zb_X11_write_118 {N : Nat} {r : Int32 × AS} {E : EV} (hE : TG E (some (.int r.1)) r.2)   {l0 : Nat} {l2 : Int32} {l3 : Int32} {l4 : Int32} {s : AS} (hf : f_X11_write_118 N l0 l2 l3 l4 s = some r) : Z E yX11_write cX11_write 5 (some .boolean) 3 s 118 [(0, .ref l0), (2, .int l2), (3, .int l3), (4, .int l4)] [] := by
  unfold f_X11_write_118 at hf
  refine z_iload 3 dX11_write_118 rfl ?_
  refine z_iconst 1 1 dX11_write_120 (by decide) ?_
  refine z_icmp_le 139 hf dX11_write_121 (by decide) (fun hf => ?_) (fun hf => ?_)
  · refine z_lv [(0, .ref l0), (2, .int l2), (3, .int l3)] [0, 1, 2] rfl ?_
    exact zb_X11_write_139 hE hf
  · refine z_aload_n 0 dX11_write_124 rfl rfl ?_
    refine z_bipush 48 48 dX11_write_125 (by decide) ?_
    refine z_iload_n 1 dX11_write_127 rfl rfl ?_
    refine z_bipush 10 10 dX11_write_128 (by decide) ?_
    refine z_idiv hf dX11_write_130  (fun v13 hf => ?_)
    refine z_bipush 10 10 dX11_write_131 (by decide) ?_
    refine z_irem hf dX11_write_133  (fun v14 hf => ?_)
    refine z_iadd dX11_write_134 ?_
    refine z_i2c dX11_write_135 ?_
    obtain ⟨v15, ev15, hf⟩ := ob hf
    refine z_cVv (ci := 11) (T := TX11) (N := 14) (As := [.int ((((48 : Int32) + v14).toUInt32 % 65536).toInt32)]) (rest := []) (zm_X11_put ev15).2 (zm_X11_put ev15).1 (by decide) rfl (Or.inr (tg_le hE (le_X11_write_139 hf))) mw_56_18 mw_56_19 mw_56_20 mw_1_2 mw_56_21 yk_X11_put (by decide) (by decide) rfl (Nat.le_of_ble_eq_true rfl) rfl dX11_write_136 ?_
    refine z_lv [(0, .ref l0), (2, .int l2), (3, .int l3)] [0, 1, 2] rfl ?_
    exact zb_X11_write_139 hE hf
set_option maxRecDepth 20000 in
theorem le_X11_write_100 {N : Nat} {r : Int32 × AS}  {l0 : Nat} {l2 : Int32} {l3 : Int32} {l4 : Int32} {s : AS} (hf : f_X11_write_100 N l0 l2 l3 l4 s = some r) : Le s r.2 := by
  unfold f_X11_write_100 at hf
  refine ite_c hf (fun hf => ?_) (fun hf => ?_)
  · exact Le.via (le_X11_write_118 hf) rfl
  · obtain ⟨v11, -, hf⟩ := ob hf
    obtain ⟨v12, ev12, hf⟩ := ob hf
    refine Le.of (t := (s.1, s.2)) rfl ((lm_X11_put ev12).tr ?_)
    exact Le.via (le_X11_write_118 hf) rfl
set_option maxRecDepth 20000 in
theorem zb_X11_write_100 {N : Nat} {r : Int32 × AS} {E : EV} (hE : TG E (some (.int r.1)) r.2)   {l0 : Nat} {l2 : Int32} {l3 : Int32} {l4 : Int32} {s : AS} (hf : f_X11_write_100 N l0 l2 l3 l4 s = some r) : Z E yX11_write cX11_write 5 (some .boolean) 3 s 100 [(0, .ref l0), (2, .int l2), (3, .int l3), (4, .int l4)] [] := by
  unfold f_X11_write_100 at hf
  refine z_iload 3 dX11_write_100 rfl ?_
  refine z_iconst 2 2 dX11_write_102 (by decide) ?_
  refine z_icmp_le 118 hf dX11_write_103 (by decide) (fun hf => ?_) (fun hf => ?_)
  · exact zb_X11_write_118 hE hf
  · refine z_aload_n 0 dX11_write_106 rfl rfl ?_
    refine z_bipush 48 48 dX11_write_107 (by decide) ?_
    refine z_iload_n 1 dX11_write_109 rfl rfl ?_
    refine z_bipush 100 100 dX11_write_110 (by decide) ?_
    refine z_idiv hf dX11_write_112  (fun v11 hf => ?_)
    refine z_iadd dX11_write_113 ?_
    refine z_i2c dX11_write_114 ?_
    obtain ⟨v12, ev12, hf⟩ := ob hf
    refine z_cVv (ci := 11) (T := TX11) (N := 14) (As := [.int ((((48 : Int32) + v11).toUInt32 % 65536).toInt32)]) (rest := []) (zm_X11_put ev12).2 (zm_X11_put ev12).1 (by decide) rfl (Or.inr (tg_le hE (le_X11_write_118 hf))) mw_56_18 mw_56_19 mw_56_20 mw_1_2 mw_56_21 yk_X11_put (by decide) (by decide) rfl (Nat.le_of_ble_eq_true rfl) rfl dX11_write_115 ?_
    exact zb_X11_write_118 hE hf
set_option maxRecDepth 20000 in
theorem le_X11_write_97 {N : Nat} {r : Int32 × AS}  {l0 : Nat} {l2 : Int32} {l3 : Int32} {l4 : Int32} {t0 : Nat} {t1 : Int32} {s : AS} (hf : f_X11_write_97 N l0 l2 l3 l4 t0 t1 s = some r) : Le s r.2 := by
  unfold f_X11_write_97 at hf
  obtain ⟨v10, ev10, hf⟩ := ob hf
  refine Le.of (t := (s.1, s.2)) rfl ((lm_X11_put ev10).tr ?_)
  exact Le.via (le_X11_write_100 hf) rfl
set_option maxRecDepth 20000 in
theorem zb_X11_write_97 {N : Nat} {r : Int32 × AS} {E : EV} (hE : TG E (some (.int r.1)) r.2)   {l0 : Nat} {l2 : Int32} {l3 : Int32} {l4 : Int32} {t0 : Nat} {t1 : Int32} {s : AS} (hf : f_X11_write_97 N l0 l2 l3 l4 t0 t1 s = some r) : Z E yX11_write cX11_write 5 (some .boolean) 3 s 97 [(0, .ref l0), (2, .int l2), (3, .int l3), (4, .int l4)] [.int t1, .ref t0] := by
  unfold f_X11_write_97 at hf
  obtain ⟨v10, ev10, hf⟩ := ob hf
  refine z_cVv (ci := 11) (T := TX11) (N := 14) (As := [.int t1]) (rest := []) (zm_X11_put ev10).2 (zm_X11_put ev10).1 (by decide) rfl (Or.inr (tg_le hE (le_X11_write_100 hf))) mw_56_18 mw_56_19 mw_56_20 mw_1_2 mw_56_21 yk_X11_put (by decide) (by decide) rfl (Nat.le_of_ble_eq_true rfl) rfl dX11_write_97 ?_
  exact zb_X11_write_100 hE hf
set_option maxRecDepth 20000 in
theorem le_X11_write_64 {N : Nat} {r : Int32 × AS}  {l0 : Nat} {l1 : Int32} {l2 : Int32} {l3 : Int32} {l4 : Int32} {t0 : Int32} {t1 : Int32} {s : AS} (hf : f_X11_write_64 N l0 l1 l2 l3 l4 t0 t1 s = some r) : Le s r.2 := by
  unfold f_X11_write_64 at hf
  refine ite_c hf (fun hf => ?_) (fun hf => ?_)
  · obtain ⟨v7, -, hf⟩ := ob hf
    obtain ⟨v8, -, hf⟩ := ob hf
    obtain ⟨v9, -, hf⟩ := ob hf
    refine ite_c hf (fun hf => ?_) (fun hf => ?_)
    · exact Le.via (le_X11_write_97 hf) rfl
    · exact Le.via (le_X11_write_97 hf) rfl
  · cases hf
    exact Le.rf
set_option maxRecDepth 20000 in
theorem zb_X11_write_64 {N : Nat} {r : Int32 × AS} {E : EV} (hE : TG E (some (.int r.1)) r.2)   {l0 : Nat} {l1 : Int32} {l2 : Int32} {l3 : Int32} {l4 : Int32} {t0 : Int32} {t1 : Int32} {s : AS} (hf : f_X11_write_64 N l0 l1 l2 l3 l4 t0 t1 s = some r) : Z E yX11_write cX11_write 5 (some .boolean) 3 s 64 [(0, .ref l0), (1, .int l1), (2, .int l2), (3, .int l3), (4, .int l4)] [.int t1, .int t0] := by
  unfold f_X11_write_64 at hf
  refine z_iadd dX11_write_64 ?_
  refine z_sipush 8000 8000 dX11_write_65 (by decide) ?_
  refine z_icmp_le 73 hf dX11_write_68 (by decide) (fun hf => ?_) (fun hf => ?_)
  · refine z_aload_n 0 dX11_write_73 rfl rfl ?_
    refine z_aload_n 0 dX11_write_74 rfl rfl ?_
    refine z_gP (ci := 11) (k := 1) (C := RX11) (T := TX11) (N := 14) rfl inlX11 (by decide) mw_1_19 (fun _ _ _ _ h9 => h9) hf (by decide) rfl dX11_write_75  (fun v7 hf => ?_)
    refine z_gP (ci := 1) (k := 4) (C := RX1) (T := TX1) (N := 8) rfl inlX1 (by decide) mw_43_7 (fun _ _ _ _ h9 => h9) hf (by decide) rfl dX11_write_78  (fun v8 hf => ?_)
    refine z_iload_n 1 dX11_write_81 rfl rfl ?_
    refine z_iconst 3 3 dX11_write_82 (by decide) ?_
    obtain ⟨v9, ev9, hf⟩ := ob hf
    refine z_cVi (ci := 8) (T := TX8) (N := 2) (As := [.int l1, .int (3 : Int32)]) (rest := [.ref l0]) (zm_X8_get ev9).2 (zm_X8_get ev9).1 (by decide) rfl (Or.inl rfl) mw_14_2 mw_10_11 mw_10_12 mw_3_13 mw_10_13 yk_X8_get (by decide) (by decide) rfl (Nat.le_of_ble_eq_true rfl) rfl dX11_write_83 ?_
    refine z_iconst 1 1 dX11_write_86 (by decide) ?_
    refine z_icmp_ne 95 hf dX11_write_87 (by decide) (fun hf => ?_) (fun hf => ?_)
    · refine z_bipush 45 45 dX11_write_95 (by decide) ?_
      refine z_lv [(0, .ref l0), (2, .int l2), (3, .int l3), (4, .int l4)] [0, 2, 3, 4] rfl ?_
      exact zb_X11_write_97 hE hf
    · refine z_bipush 43 43 dX11_write_90 (by decide) ?_
      refine z_goto 97 dX11_write_92 (by decide) ?_
      refine z_lv [(0, .ref l0), (2, .int l2), (3, .int l3), (4, .int l4)] [0, 2, 3, 4] rfl ?_
      exact zb_X11_write_97 hE hf
  · refine z_iconst 0 0 dX11_write_71 (by decide) ?_
    cases hf
    exact z_zreturn hE rfl (by decide) dX11_write_72
set_option maxRecDepth 20000 in
theorem le_X11_write_43 {N : Nat} {r : Int32 × AS}  {l0 : Nat} {l1 : Int32} {l2 : Int32} {l3 : Int32} {t0 : Int32} {s : AS} (hf : f_X11_write_43 N l0 l1 l2 l3 t0 s = some r) : Le s r.2 := by
  unfold f_X11_write_43 at hf
  obtain ⟨v6, -, hf⟩ := ob hf
  refine ite_c hf (fun hf => ?_) (fun hf => ?_)
  · exact Le.via (le_X11_write_64 hf) rfl
  · exact Le.via (le_X11_write_64 hf) rfl
set_option maxRecDepth 20000 in
theorem zb_X11_write_43 {N : Nat} {r : Int32 × AS} {E : EV} (hE : TG E (some (.int r.1)) r.2)   {l0 : Nat} {l1 : Int32} {l2 : Int32} {l3 : Int32} {t0 : Int32} {s : AS} (hf : f_X11_write_43 N l0 l1 l2 l3 t0 s = some r) : Z E yX11_write cX11_write 5 (some .boolean) 3 s 43 [(0, .ref l0), (1, .int l1), (2, .int l2), (3, .int l3)] [.int t0] := by
  unfold f_X11_write_43 at hf
  refine z_istore [(4, .int t0), (0, .ref l0), (1, .int l1), (2, .int l2), (3, .int l3)] dX11_write_43 (by decide) rfl ?_
  refine z_aload_n 1 dX11_write_45 rfl rfl ?_
  refine z_gI (ci := 11) (k := 12) (C := RX11) (T := TX11) (N := 14) rfl inlX11 (by decide) mw_2_19 (fun _ _ _ _ h9 => h9) hf (by decide) rfl dX11_write_46  (fun v6 hf => ?_)
  refine z_iconst 1 1 dX11_write_49 (by decide) ?_
  refine z_iadd dX11_write_50 ?_
  refine z_iload 0 dX11_write_51 rfl ?_
  refine z_iadd dX11_write_53 ?_
  refine z_iload_n 4 dX11_write_54 rfl rfl ?_
  refine z_iconst (-1) (-1) dX11_write_55 (by decide) ?_
  refine z_icmp_ne 63 hf dX11_write_56 (by decide) (fun hf => ?_) (fun hf => ?_)
  · refine z_iconst 1 1 dX11_write_63 (by decide) ?_
    refine z_lv [(0, .ref l0), (1, .int l1), (2, .int l2), (3, .int l3), (4, .int t0)] [1, 2, 3, 4, 0] rfl ?_
    exact zb_X11_write_64 hE hf
  · refine z_iconst 0 0 dX11_write_59 (by decide) ?_
    refine z_goto 64 dX11_write_60 (by decide) ?_
    refine z_lv [(0, .ref l0), (1, .int l1), (2, .int l2), (3, .int l3), (4, .int t0)] [1, 2, 3, 4, 0] rfl ?_
    exact zb_X11_write_64 hE hf
set_option maxRecDepth 20000 in
theorem lm_X11_write {N : Nat} {s : AS} {l0 : Nat} {l1 : Int32} {r : Int32 × AS} (hf : f_X11_write N l0 l1 s = some r) : Le s r.2 := by
  unfold f_X11_write at hf
  refine ite_c hf (fun hf => ?_) (fun hf => ?_)
  · skip
    obtain ⟨v1, -, hf⟩ := ob hf
    obtain ⟨v2, -, hf⟩ := ob hf
    obtain ⟨v3, -, hf⟩ := ob hf
    obtain ⟨v4, -, hf⟩ := ob hf
    obtain ⟨v5, -, hf⟩ := ob hf
    refine ite_c hf (fun hf => ?_) (fun hf => ?_)
    · refine ite_c hf (fun hf => ?_) (fun hf => ?_)
      · exact Le.via (le_X11_write_43 hf) rfl
      · exact Le.via (le_X11_write_43 hf) rfl
    · exact Le.via (le_X11_write_43 hf) rfl
  · cases hf
set_option maxRecDepth 20000 in
theorem zm_X11_write {N : Nat} {s : AS} {l0 : Nat} {l1 : Int32} {r : Int32 × AS} (hf : f_X11_write N l0 l1 s = some r) : isO s.1 l0 11 ∧ ∀ (l : Launch) (G : GG), Mt l G yX11_write cX11_write 5 (some .boolean) 3 [.ref l0, .int l1] s (some (.int r.1)) r.2 := by
  have hf0 := hf
  unfold f_X11_write at hf
  refine ite_d hf (fun hO hf => ?_) (fun _ hf => ?_)
  · refine ⟨hO, fun l G => mt_of (Or.inl (by decide)) (Nat.le_of_ble_eq_true rfl) (lm_X11_write hf0) (fun E hE => ?_)⟩
    show Z E yX11_write cX11_write 5 (some .boolean) 3 s 0 [(0, .ref l0), (1, .int l1)] []
    refine z_aload_n 0 dX11_write_0 rfl rfl ?_
    refine z_gP (ci := 11) (k := 1) (C := RX11) (T := TX11) (N := 14) rfl inlX11 (by decide) mw_1_19 (fun _ _ _ _ h9 => h9) hf (by decide) rfl dX11_write_1  (fun v1 hf => ?_)
    refine z_gP (ci := 1) (k := 4) (C := RX1) (T := TX1) (N := 8) rfl inlX1 (by decide) mw_43_7 (fun _ _ _ _ h9 => h9) hf (by decide) rfl dX11_write_4  (fun v2 hf => ?_)
    refine z_iload_n 1 dX11_write_7 rfl rfl ?_
    refine z_iconst 0 0 dX11_write_8 (by decide) ?_
    obtain ⟨v3, ev3, hf⟩ := ob hf
    refine z_cVi (ci := 8) (T := TX8) (N := 2) (As := [.int l1, .int (0 : Int32)]) (rest := []) (zm_X8_get ev3).2 (zm_X8_get ev3).1 (by decide) rfl (Or.inl rfl) mw_14_2 mw_10_11 mw_10_12 mw_3_13 mw_10_13 yk_X8_get (by decide) (by decide) rfl (Nat.le_of_ble_eq_true rfl) rfl dX11_write_9 ?_
    refine z_istore_n [(2, .int v3), (0, .ref l0), (1, .int l1)] dX11_write_12 rfl (by decide) rfl ?_
    refine z_aload_n 1 dX11_write_13 rfl rfl ?_
    refine z_gP (ci := 11) (k := 1) (C := RX11) (T := TX11) (N := 14) rfl inlX11 (by decide) mw_1_19 (fun _ _ _ _ h9 => h9) hf (by decide) rfl dX11_write_14  (fun v4 hf => ?_)
    refine z_iload_n 2 dX11_write_17 rfl rfl ?_
    obtain ⟨v5, ev5, hf⟩ := ob hf
    refine z_cVi (ci := 1) (T := TX1) (N := 8) (As := [.int l1]) (rest := []) (zm_X1_whoEndsAt ev5).2 (zm_X1_whoEndsAt ev5).1 (by decide) rfl (Or.inl rfl) mw_56_14 mw_56_15 mw_56_16 mw_1_18 mw_56_17 yk_X1_whoEndsAt (by decide) (by decide) rfl (Nat.le_of_ble_eq_true rfl) rfl dX11_write_18 ?_
    refine z_istore_n [(3, .int v5), (2, .int v3), (0, .ref l0), (1, .int l1)] dX11_write_21 rfl (by decide) rfl ?_
    refine z_iload_n 1 dX11_write_22 rfl rfl ?_
    refine z_bipush 10 10 dX11_write_23 (by decide) ?_
    refine z_icmp_ge 32 hf dX11_write_25 (by decide) (fun hf => ?_) (fun hf => ?_)
    · refine z_iload_n 1 dX11_write_32 rfl rfl ?_
      refine z_bipush 100 100 dX11_write_33 (by decide) ?_
      refine z_icmp_ge 42 hf dX11_write_35 (by decide) (fun hf => ?_) (fun hf => ?_)
      · refine z_iconst 3 3 dX11_write_42 (by decide) ?_
        refine z_lv [(0, .ref l0), (1, .int l1), (2, .int v3), (3, .int v5)] [2, 3, 1, 0] rfl ?_
        exact zb_X11_write_43 hE hf
      · refine z_iconst 2 2 dX11_write_38 (by decide) ?_
        refine z_goto 43 dX11_write_39 (by decide) ?_
        refine z_lv [(0, .ref l0), (1, .int l1), (2, .int v3), (3, .int v5)] [2, 3, 1, 0] rfl ?_
        exact zb_X11_write_43 hE hf
    · refine z_iconst 1 1 dX11_write_28 (by decide) ?_
      refine z_goto 43 dX11_write_29 (by decide) ?_
      refine z_lv [(0, .ref l0), (1, .int l1), (2, .int v3), (3, .int v5)] [2, 3, 1, 0] rfl ?_
      exact zb_X11_write_43 hE hf
  · cases hf
set_option maxRecDepth 20000 in
theorem le_X11_text_39 {N : Nat} {r : Int32 × AS}  {l0 : Nat} {s : AS} (hf : f_X11_text_39 N l0 s = some r) : Le s r.2 := by
  unfold f_X11_text_39 at hf
  obtain ⟨v6, -, hf⟩ := ob hf
  obtain ⟨v7, -, hf⟩ := ob hf
  cases hf
  exact Le.rf
set_option maxRecDepth 20000 in
theorem zb_X11_text_39 {N : Nat} {r : Int32 × AS} {E : EV} (hE : TG E (some (.int r.1)) r.2)   {l0 : Nat} {s : AS} (hf : f_X11_text_39 N l0 s = some r) : Z E yX11_text cX11_text 3 (some .int) 4 s 39 [(0, .ref l0)] [] := by
  unfold f_X11_text_39 at hf
  refine z_aload_n 0 dX11_text_39 rfl rfl ?_
  refine z_aload_n 0 dX11_text_40 rfl rfl ?_
  refine z_gI (ci := 11) (k := 12) (C := RX11) (T := TX11) (N := 14) rfl inlX11 (by decide) mw_2_19 (fun _ _ _ _ h9 => h9) hf (by decide) rfl dX11_text_41  (fun v6 hf => ?_)
  obtain ⟨v7, ev7, hf⟩ := ob hf
  refine z_cVi (ci := 11) (T := TX11) (N := 14) (As := [.int v6]) (rest := []) (zm_X11_answer ev7).2 (zm_X11_answer ev7).1 (by decide) rfl (Or.inl rfl) mw_11_2 mw_11_3 mw_11_4 mw_1_2 mw_11_5 yk_X11_answer (by decide) (by decide) rfl (Nat.le_of_ble_eq_true rfl) rfl dX11_text_44 ?_
  cases hf
  exact z_ireturn hE rfl dX11_text_47
set_option maxRecDepth 20000 in
theorem le_X11_text_32 {N : Nat} {k9 : Nat → Int32 → Int32 → AS → Option (Int32 × AS)} {r : Int32 × AS} (hk9 : ∀ (l0 : Nat) (l1 : Int32) (l2 : Int32) (s : AS), k9 l0 l1 l2 s = some r → Le s r.2) {l0 : Nat} {l2 : Int32} {t0 : Int32} {s : AS} (hf : f_X11_text_32 N k9 l0 l2 t0 s = some r) : Le s r.2 := by
  unfold f_X11_text_32 at hf
  exact Le.via (hk9 _ _ _ _ hf) rfl
set_option maxRecDepth 20000 in
theorem zb_X11_text_32 {N : Nat} {k9 : Nat → Int32 → Int32 → AS → Option (Int32 × AS)} {r : Int32 × AS} {E : EV} (hE : TG E (some (.int r.1)) r.2) (hk9 : ∀ (l0 : Nat) (l1 : Int32) (l2 : Int32) (s : AS), k9 l0 l1 l2 s = some r → Z E yX11_text cX11_text 3 (some .int) 4 s 9 [(0, .ref l0), (1, .int l1), (2, .int l2)] []) (hq9 : ∀ (l0 : Nat) (l1 : Int32) (l2 : Int32) (s : AS), k9 l0 l1 l2 s = some r → Le s r.2) {l0 : Nat} {l2 : Int32} {t0 : Int32} {s : AS} (hf : f_X11_text_32 N k9 l0 l2 t0 s = some r) : Z E yX11_text cX11_text 3 (some .int) 4 s 32 [(0, .ref l0), (2, .int l2)] [.int t0] := by
  unfold f_X11_text_32 at hf
  refine z_istore_n [(1, .int t0), (0, .ref l0), (2, .int l2)] dX11_text_32 rfl (by decide) rfl ?_
  refine z_iinc [(2, .int (l2 + 1)), (1, .int t0), (0, .ref l0)] 2 (l2 + 1) dX11_text_33 rfl rfl (by decide) rfl ?_
  refine z_goto 9 dX11_text_36 (by decide) ?_
  refine z_lv [(0, .ref l0), (1, .int t0), (2, .int (l2 + 1))] [2, 1, 0] rfl ?_
  exact hk9 _ _ _ _ hf
set_option maxRecDepth 20000 in
theorem lg_X11_text_9 {N : Nat} {r : Int32 × AS} {k9 : Nat → Int32 → Int32 → AS → Option (Int32 × AS)}  (hk9 : ∀ (l0 : Nat) (l1 : Int32) (l2 : Int32) (s : AS), k9 l0 l1 l2 s = some r → Le s r.2) {l0 : Nat} {l1 : Int32} {l2 : Int32} {s : AS} (hf : g_X11_text_9 N k9 l0 l1 l2 s = some r) : Le s r.2 := by
  unfold g_X11_text_9 at hf
  obtain ⟨v2, -, hf⟩ := ob hf
  obtain ⟨v3, -, hf⟩ := ob hf
  obtain ⟨v4, -, hf⟩ := ob hf
  refine ite_c hf (fun hf => ?_) (fun hf => ?_)
  · exact Le.via (le_X11_text_39 hf) rfl
  · refine ite_c hf (fun hf => ?_) (fun hf => ?_)
    · exact Le.via (le_X11_text_39 hf) rfl
    · obtain ⟨v5, ev5, hf⟩ := ob hf
      refine Le.of (t := (s.1, s.2)) rfl ((lm_X11_write ev5).tr ?_)
      exact Le.via (le_X11_text_32 hk9 hf) rfl
set_option maxRecDepth 20000 in
theorem le_X11_text_9 {N : Nat} {r : Int32 × AS}  : ∀ (n : Nat) (l0 : Nat) (l1 : Int32) (l2 : Int32) (s : AS), f_X11_text_9 N n l0 l1 l2 s = some r → Le s r.2 := by
  intro n
  induction n with
  | zero => intro l0 l1 l2 s hf; cases hf
  | succ n ih => intro l0 l1 l2 s hf; exact lg_X11_text_9 ih hf
set_option maxRecDepth 20000 in
theorem zg_X11_text_9 {N : Nat} {r : Int32 × AS} {k9 : Nat → Int32 → Int32 → AS → Option (Int32 × AS)} {E : EV} (hE : TG E (some (.int r.1)) r.2)   (hk9 : ∀ (l0 : Nat) (l1 : Int32) (l2 : Int32) (s : AS), k9 l0 l1 l2 s = some r → Z E yX11_text cX11_text 3 (some .int) 4 s 9 [(0, .ref l0), (1, .int l1), (2, .int l2)] []) (hq9 : ∀ (l0 : Nat) (l1 : Int32) (l2 : Int32) (s : AS), k9 l0 l1 l2 s = some r → Le s r.2) {l0 : Nat} {l1 : Int32} {l2 : Int32} {s : AS} (hf : g_X11_text_9 N k9 l0 l1 l2 s = some r) : Z E yX11_text cX11_text 3 (some .int) 4 s 9 [(0, .ref l0), (1, .int l1), (2, .int l2)] [] := by
  unfold g_X11_text_9 at hf
  refine z_iload_n 2 dX11_text_9 rfl rfl ?_
  refine z_aload_n 0 dX11_text_10 rfl rfl ?_
  refine z_gP (ci := 11) (k := 1) (C := RX11) (T := TX11) (N := 14) rfl inlX11 (by decide) mw_1_19 (fun _ _ _ _ h9 => h9) hf (by decide) rfl dX11_text_11  (fun v2 hf => ?_)
  refine z_gP (ci := 1) (k := 4) (C := RX1) (T := TX1) (N := 8) rfl inlX1 (by decide) mw_43_7 (fun _ _ _ _ h9 => h9) hf (by decide) rfl dX11_text_14  (fun v3 hf => ?_)
  refine z_gI (ci := 8) (k := 1) (C := RX8) (T := TX8) (N := 2) rfl inlX8 (by decide) mw_12_13 (fun _ _ _ _ h9 => h9) hf (by decide) rfl dX11_text_17  (fun v4 hf => ?_)
  refine z_icmp_ge 39 hf dX11_text_20 (by decide) (fun hf => ?_) (fun hf => ?_)
  · refine z_lv [(0, .ref l0)] [0] rfl ?_
    exact zb_X11_text_39 hE hf
  · refine z_iload_n 1 dX11_text_23 rfl rfl ?_
    refine z_if_eq 39 hf dX11_text_24 (by decide) (fun hf => ?_) (fun hf => ?_)
    · refine z_lv [(0, .ref l0)] [0] rfl ?_
      exact zb_X11_text_39 hE hf
    · refine z_aload_n 0 dX11_text_27 rfl rfl ?_
      refine z_iload_n 2 dX11_text_28 rfl rfl ?_
      obtain ⟨v5, ev5, hf⟩ := ob hf
      refine z_cVi (ci := 11) (T := TX11) (N := 14) (As := [.int l2]) (rest := []) (zm_X11_write ev5).2 (zm_X11_write ev5).1 (by decide) rfl (Or.inr (tg_le hE (le_X11_text_32 hq9 hf))) mw_56_10 mw_56_11 mw_56_12 mw_1_2 mw_56_13 yk_X11_write (by decide) (by decide) rfl (Nat.le_of_ble_eq_true rfl) rfl dX11_text_29 ?_
      refine z_lv [(0, .ref l0), (2, .int l2)] [0, 2] rfl ?_
      exact zb_X11_text_32 hE hk9 hq9 hf
set_option maxRecDepth 20000 in
theorem zb_X11_text_9 {N : Nat} {r : Int32 × AS} {E : EV} (hE : TG E (some (.int r.1)) r.2)   : ∀ (n : Nat) (l0 : Nat) (l1 : Int32) (l2 : Int32) (s : AS), f_X11_text_9 N n l0 l1 l2 s = some r → Z E yX11_text cX11_text 3 (some .int) 4 s 9 [(0, .ref l0), (1, .int l1), (2, .int l2)] [] := by
  intro n
  induction n with
  | zero => intro l0 l1 l2 s hf; cases hf
  | succ n ih => intro l0 l1 l2 s hf; exact zg_X11_text_9 hE ih (le_X11_text_9 n) hf
set_option maxRecDepth 20000 in
theorem lm_X11_text {N : Nat} {s : AS} {l0 : Nat} {r : Int32 × AS} (hf : f_X11_text N l0 s = some r) : Le s r.2 := by
  unfold f_X11_text at hf
  refine ite_c hf (fun hf => ?_) (fun hf => ?_)
  · skip
    obtain ⟨d1, -, hf⟩ := ob hf
    exact Le.via (le_X11_text_9 N _ _ _ _ hf) rfl
  · cases hf
set_option maxRecDepth 20000 in
theorem zm_X11_text {N : Nat} {s : AS} {l0 : Nat} {r : Int32 × AS} (hf : f_X11_text N l0 s = some r) : isO s.1 l0 11 ∧ ∀ (l : Launch) (G : GG), Mt l G yX11_text cX11_text 3 (some .int) 4 [.ref l0] s (some (.int r.1)) r.2 := by
  have hf0 := hf
  unfold f_X11_text at hf
  refine ite_d hf (fun hO hf => ?_) (fun _ hf => ?_)
  · refine ⟨hO, fun l G => mt_of (Or.inl (by decide)) (Nat.le_of_ble_eq_true rfl) (lm_X11_text hf0) (fun E hE => ?_)⟩
    show Z E yX11_text cX11_text 3 (some .int) 4 s 0 [(0, .ref l0)] []
    refine z_aload_n 0 dX11_text_0 rfl rfl ?_
    refine z_iconst 0 0 dX11_text_1 (by decide) ?_
    refine z_pI (ci := 11) (k := 12) (C := RX11) (T := TX11) (N := 14) rfl inlX11 (by decide) mw_2_19 (fun _ _ _ _ h9 => h9) tyX11 tyX11_ok nmX11 rfl hf (Or.inl (by decide)) rfl rfl rfl dX11_text_2  (fun d1 hf => ?_)
    refine z_iconst 1 1 dX11_text_5 (by decide) ?_
    refine z_istore_n [(1, .int (1 : Int32)), (0, .ref l0)] dX11_text_6 rfl (by decide) rfl ?_
    refine z_iconst 0 0 dX11_text_7 (by decide) ?_
    refine z_istore_n [(2, .int (0 : Int32)), (1, .int (1 : Int32)), (0, .ref l0)] dX11_text_8 rfl (by decide) rfl ?_
    refine z_lv [(0, .ref l0), (1, .int (1 : Int32)), (2, .int (0 : Int32))] [2, 1, 0] rfl ?_
    exact zb_X11_text_9 hE N _ _ _ _ hf
  · cases hf
set_option maxRecDepth 20000 in
theorem zb_X11_told_24 {N : Nat} {sh : Sh} {r : Int32 × Dt} {E : EV} (hE : TG E (some (.int r.1)) (sh, r.2))  {l0 : Nat} {d : Dt} (hf : f_X11_told_24 N sh l0 d = some r) : Z E yX11_told cX11_told 3 (some .int) 3 (sh, d) 24 [(0, .ref l0)] [] := by
  unfold f_X11_told_24 at hf
  refine z_aload_n 0 dX11_told_24 rfl rfl ?_
  refine z_bipush (-2) (-2) dX11_told_25 (by decide) ?_
  obtain ⟨v8, ev8, hf⟩ := ob hf
  refine z_cVi (ci := 11) (T := TX11) (N := 14) (As := [.int (-2 : Int32)]) (rest := []) (zm_X11_refuse ev8).2 (zm_X11_refuse ev8).1 (by decide) rfl (Or.inl rfl) mw_7_22 mw_7_23 mw_8_0 mw_1_2 mw_8_1 yk_X11_refuse (by decide) (by decide) rfl (Nat.le_of_ble_eq_true rfl) rfl dX11_told_27 ?_
  cases hf
  exact z_ireturn hE rfl dX11_told_30
set_option maxRecDepth 20000 in
theorem zm_X11_told {N : Nat} {sh : Sh} {d : Dt} {l0 : Nat} {l1 : Int32} {l2 : Int32} {r : Int32 × Dt} (hf : f_X11_told N sh l0 l1 l2 d = some r) : isO sh l0 11 ∧ ∀ (l : Launch) (G : GG), Mt l G yX11_told cX11_told 3 (some .int) 3 [.ref l0, .int l1, .int l2] (sh, d) (some (.int r.1)) (sh, r.2) := by
  have hf0 := hf
  unfold f_X11_told at hf
  refine ite_d hf (fun hO hf => ?_) (fun _ hf => ?_)
  · refine ⟨hO, fun l G => mt_of (Or.inl (by decide)) (Nat.le_of_ble_eq_true rfl) Le.rf (fun E hE => ?_)⟩
    show Z E yX11_told cX11_told 3 (some .int) 3 (sh, d) 0 [(0, .ref l0), (1, .int l1), (2, .int l2)] []
    refine z_aload_n 0 dX11_told_0 rfl rfl ?_
    refine z_gP (ci := 11) (k := 1) (C := RX11) (T := TX11) (N := 14) rfl inlX11 (by decide) mw_1_19 (fun _ _ _ _ h9 => h9) hf (by decide) rfl dX11_told_1  (fun v1 hf => ?_)
    refine z_gP (ci := 1) (k := 1) (C := RX1) (T := TX1) (N := 8) rfl inlX1 (by decide) mw_12_12 (fun _ _ _ _ h9 => h9) hf (by decide) rfl dX11_told_4  (fun v2 hf => ?_)
    refine z_iload_n 1 dX11_told_7 rfl rfl ?_
    obtain ⟨v3, ev3, hf⟩ := ob hf
    refine z_cVi (ci := 8) (T := TX8) (N := 2) (As := [.int l1]) (rest := []) (zm_X8_has ev3).2 (zm_X8_has ev3).1 (by decide) rfl (Or.inl rfl) mw_13_22 mw_13_23 mw_14_0 mw_3_13 mw_14_1 yk_X8_has (by decide) (by decide) rfl (Nat.le_of_ble_eq_true rfl) rfl dX11_told_8 ?_
    refine z_if_eq 24 hf dX11_told_11 (by decide) (fun hf => ?_) (fun hf => ?_)
    · refine z_lv [(0, .ref l0)] [0] rfl ?_
      exact zb_X11_told_24 hE hf
    · refine z_iload_n 2 dX11_told_14 rfl rfl ?_
      refine z_if_lt 24 hf dX11_told_15 (by decide) (fun hf => ?_) (fun hf => ?_)
      · refine z_lv [(0, .ref l0)] [0] rfl ?_
        exact zb_X11_told_24 hE hf
      · refine z_iload_n 2 dX11_told_18 rfl rfl ?_
        refine z_bipush 9 9 dX11_told_19 (by decide) ?_
        refine z_icmp_lt 31 hf dX11_told_21 (by decide) (fun hf => ?_) (fun hf => ?_)
        · refine z_aload_n 0 dX11_told_31 rfl rfl ?_
          refine z_aload_n 0 dX11_told_32 rfl rfl ?_
          refine z_gP (ci := 11) (k := 1) (C := RX11) (T := TX11) (N := 14) rfl inlX11 (by decide) mw_1_19 (fun _ _ _ _ h9 => h9) hf (by decide) rfl dX11_told_33  (fun v4 hf => ?_)
          refine z_gP (ci := 1) (k := 1) (C := RX1) (T := TX1) (N := 8) rfl inlX1 (by decide) mw_12_12 (fun _ _ _ _ h9 => h9) hf (by decide) rfl dX11_told_36  (fun v5 hf => ?_)
          refine z_iload_n 1 dX11_told_39 rfl rfl ?_
          refine z_iload_n 2 dX11_told_40 rfl rfl ?_
          obtain ⟨v6, ev6, hf⟩ := ob hf
          refine z_cVi (ci := 8) (T := TX8) (N := 2) (As := [.int l1, .int l2]) (rest := [.ref l0]) (zm_X8_get ev6).2 (zm_X8_get ev6).1 (by decide) rfl (Or.inl rfl) mw_14_2 mw_10_11 mw_10_12 mw_3_13 mw_10_13 yk_X8_get (by decide) (by decide) rfl (Nat.le_of_ble_eq_true rfl) rfl dX11_told_41 ?_
          obtain ⟨v7, ev7, hf⟩ := ob hf
          refine z_cVi (ci := 11) (T := TX11) (N := 14) (As := [.int v6]) (rest := []) (zm_X11_answer ev7).2 (zm_X11_answer ev7).1 (by decide) rfl (Or.inl rfl) mw_11_2 mw_11_3 mw_11_4 mw_1_2 mw_11_5 yk_X11_answer (by decide) (by decide) rfl (Nat.le_of_ble_eq_true rfl) rfl dX11_told_44 ?_
          cases hf
          exact z_ireturn hE rfl dX11_told_47
        · refine z_lv [(0, .ref l0)] [0] rfl ?_
          exact zb_X11_told_24 hE hf
  · cases hf
set_option maxRecDepth 20000 in
theorem zm_X11_trace {N : Nat} {sh : Sh} {d : Dt} {l0 : Nat} {r : Int32} (hf : f_X11_trace N sh l0 d = some r) : isO sh l0 11 ∧ ∀ (l : Launch) (G : GG), Mt l G yX11_trace cX11_trace 1 (some .int) 1 [.ref l0] (sh, d) (some (.int r)) (sh, d) := by
  have hf0 := hf
  unfold f_X11_trace at hf
  refine ite_d hf (fun hO hf => ?_) (fun _ hf => ?_)
  · refine ⟨hO, fun l G => mt_of (Or.inl (by decide)) (Nat.le_of_ble_eq_true rfl) Le.rf (fun E hE => ?_)⟩
    show Z E yX11_trace cX11_trace 1 (some .int) 1 (sh, d) 0 [(0, .ref l0)] []
    refine z_aload_n 0 dX11_trace_0 rfl rfl ?_
    refine z_gP (ci := 11) (k := 0) (C := RX11) (T := TX11) (N := 14) rfl inlX11 (by decide) mw_1_15 (fun _ _ _ _ h9 => h9) hf (by decide) rfl dX11_trace_1  (fun v1 hf => ?_)
    refine z_gI (ci := 2) (k := 2) (C := RX2) (T := TX2) (N := 4) rfl inlX2 (by decide) mw_59_13 (fun _ _ _ _ h9 => h9) hf (by decide) rfl dX11_trace_4  (fun v2 hf => ?_)
    cases hf
    exact z_ireturn hE rfl dX11_trace_7
  · cases hf
set_option maxRecDepth 20000 in
theorem le_X11_undo_29 {N : Nat} {r : Int32 × AS}  {l0 : Nat} {s : AS} (hf : f_X11_undo_29 N l0 s = some r) : Le s r.2 := by
  unfold f_X11_undo_29 at hf
  obtain ⟨v7, -, hf⟩ := ob hf
  obtain ⟨v8, -, hf⟩ := ob hf
  cases hf
  exact Le.rf
set_option maxRecDepth 20000 in
theorem zb_X11_undo_29 {N : Nat} {r : Int32 × AS} {E : EV} (hE : TG E (some (.int r.1)) r.2)   {l0 : Nat} {s : AS} (hf : f_X11_undo_29 N l0 s = some r) : Z E yX11_undo cX11_undo 1 (some .int) 5 s 29 [(0, .ref l0)] [] := by
  unfold f_X11_undo_29 at hf
  refine z_aload_n 0 dX11_undo_29 rfl rfl ?_
  obtain ⟨v7, ev7, hf⟩ := ob hf
  refine z_cVv (ci := 11) (T := TX11) (N := 14) (As := []) (rest := []) (zm_X11_forgetWays ev7).2 (zm_X11_forgetWays ev7).1 (by decide) rfl (Or.inl rfl) mw_10_14 mw_10_15 mw_10_16 mw_1_2 mw_10_17 yk_X11_forgetWays (by decide) (by decide) rfl (Nat.le_of_ble_eq_true rfl) rfl dX11_undo_30 ?_
  refine z_aload_n 0 dX11_undo_33 rfl rfl ?_
  refine z_iconst 1 1 dX11_undo_34 (by decide) ?_
  obtain ⟨v8, ev8, hf⟩ := ob hf
  refine z_cVi (ci := 11) (T := TX11) (N := 14) (As := [.int (1 : Int32)]) (rest := []) (zm_X11_answer ev8).2 (zm_X11_answer ev8).1 (by decide) rfl (Or.inl rfl) mw_11_2 mw_11_3 mw_11_4 mw_1_2 mw_11_5 yk_X11_answer (by decide) (by decide) rfl (Nat.le_of_ble_eq_true rfl) rfl dX11_undo_35 ?_
  cases hf
  exact z_ireturn hE rfl dX11_undo_38
set_option maxRecDepth 20000 in
theorem lm_X11_undo {N : Nat} {s : AS} {l0 : Nat} {r : Int32 × AS} (hf : f_X11_undo N l0 s = some r) : Le s r.2 := by
  unfold f_X11_undo at hf
  refine ite_c hf (fun hf => ?_) (fun hf => ?_)
  · skip
    obtain ⟨v1, -, hf⟩ := ob hf
    refine ite_c hf (fun hf => ?_) (fun hf => ?_)
    · obtain ⟨d2, -, hf⟩ := ob hf
      obtain ⟨v3, -, hf⟩ := ob hf
      obtain ⟨v4, -, hf⟩ := ob hf
      obtain ⟨v5, ev5, hf⟩ := ob hf
      refine Le.of (t := (s.1, d2)) rfl ((lm_X1_become ev5).tr ?_)
      exact Le.via (le_X11_undo_29 hf) rfl
    · obtain ⟨v6, -, hf⟩ := ob hf
      cases hf
      exact Le.rf
  · cases hf
set_option maxRecDepth 20000 in
theorem zm_X11_undo {N : Nat} {s : AS} {l0 : Nat} {r : Int32 × AS} (hf : f_X11_undo N l0 s = some r) : isO s.1 l0 11 ∧ ∀ (l : Launch) (G : GG), Mt l G yX11_undo cX11_undo 1 (some .int) 5 [.ref l0] s (some (.int r.1)) r.2 := by
  have hf0 := hf
  unfold f_X11_undo at hf
  refine ite_d hf (fun hO hf => ?_) (fun _ hf => ?_)
  · refine ⟨hO, fun l G => mt_of (Or.inl (by decide)) (Nat.le_of_ble_eq_true rfl) (lm_X11_undo hf0) (fun E hE => ?_)⟩
    show Z E yX11_undo cX11_undo 1 (some .int) 5 s 0 [(0, .ref l0)] []
    refine z_aload_n 0 dX11_undo_0 rfl rfl ?_
    refine z_gI (ci := 11) (k := 13) (C := RX11) (T := TX11) (N := 14) rfl inlX11 (by decide) mw_2_20 (fun _ _ _ _ h9 => h9) hf (by decide) rfl dX11_undo_1  (fun v1 hf => ?_)
    refine z_if_ne 13 hf dX11_undo_4 (by decide) (fun hf => ?_) (fun hf => ?_)
    · refine z_aload_n 0 dX11_undo_13 rfl rfl ?_
      refine z_iconst 0 0 dX11_undo_14 (by decide) ?_
      refine z_pI (ci := 11) (k := 13) (C := RX11) (T := TX11) (N := 14) rfl inlX11 (by decide) mw_2_20 (fun _ _ _ _ h9 => h9) tyX11 tyX11_ok nmX11 rfl hf (Or.inl (by decide)) rfl rfl rfl dX11_undo_15  (fun d2 hf => ?_)
      refine z_aload_n 0 dX11_undo_18 rfl rfl ?_
      refine z_gP (ci := 11) (k := 1) (C := RX11) (T := TX11) (N := 14) rfl inlX11 (by decide) mw_1_19 (fun _ _ _ _ h9 => h9) hf (by decide) rfl dX11_undo_19  (fun v3 hf => ?_)
      refine z_aload_n 0 dX11_undo_22 rfl rfl ?_
      refine z_gP (ci := 11) (k := 2) (C := RX11) (T := TX11) (N := 14) rfl inlX11 (by decide) mw_1_20 (fun _ _ _ _ h9 => h9) hf (by decide) rfl dX11_undo_23  (fun v4 hf => ?_)
      obtain ⟨v5, ev5, hf⟩ := ob hf
      refine z_cVv (ci := 1) (T := TX1) (N := 8) (As := [.ref v4]) (rest := []) (zm_X1_become ev5).2 (zm_X1_become ev5).1 (by decide) rfl (Or.inr (tg_le hE (le_X11_undo_29 hf))) mw_8_11 mw_8_12 mw_8_13 mw_1_18 mw_8_14 yk_X1_become (by decide) (by decide) rfl (Nat.le_of_ble_eq_true rfl) rfl dX11_undo_26 ?_
      exact zb_X11_undo_29 hE hf
    · refine z_aload_n 0 dX11_undo_7 rfl rfl ?_
      refine z_iconst 0 0 dX11_undo_8 (by decide) ?_
      obtain ⟨v6, ev6, hf⟩ := ob hf
      refine z_cVi (ci := 11) (T := TX11) (N := 14) (As := [.int (0 : Int32)]) (rest := []) (zm_X11_answer ev6).2 (zm_X11_answer ev6).1 (by decide) rfl (Or.inl rfl) mw_11_2 mw_11_3 mw_11_4 mw_1_2 mw_11_5 yk_X11_answer (by decide) (by decide) rfl (Nat.le_of_ble_eq_true rfl) rfl dX11_undo_9 ?_
      cases hf
      exact z_ireturn hE rfl dX11_undo_12
  · cases hf
set_option maxRecDepth 20000 in
theorem zb_X11_way_22 {N : Nat} {sh : Sh} {r : Int32 × Dt} {E : EV} (hE : TG E (some (.int r.1)) (sh, r.2))  {l0 : Nat} {d : Dt} (hf : f_X11_way_22 N sh l0 d = some r) : Z E yX11_way cX11_way 4 (some .int) 6 (sh, d) 22 [(0, .ref l0)] [] := by
  unfold f_X11_way_22 at hf
  refine z_aload_n 0 dX11_way_22 rfl rfl ?_
  refine z_bipush (-2) (-2) dX11_way_23 (by decide) ?_
  obtain ⟨v11, ev11, hf⟩ := ob hf
  refine z_cVi (ci := 11) (T := TX11) (N := 14) (As := [.int (-2 : Int32)]) (rest := []) (zm_X11_refuse ev11).2 (zm_X11_refuse ev11).1 (by decide) rfl (Or.inl rfl) mw_7_22 mw_7_23 mw_8_0 mw_1_2 mw_8_1 yk_X11_refuse (by decide) (by decide) rfl (Nat.le_of_ble_eq_true rfl) rfl dX11_way_25 ?_
  cases hf
  exact z_ireturn hE rfl dX11_way_28
set_option maxRecDepth 20000 in
theorem zb_X11_way_69 {N : Nat} {sh : Sh} {r : Int32 × Dt} {E : EV} (hE : TG E (some (.int r.1)) (sh, r.2))  {t0 : Int32} {d : Dt} (hf : f_X11_way_69 N sh t0 d = some r) : Z E yX11_way cX11_way 4 (some .int) 6 (sh, d) 69 [] [.int t0] := by
  unfold f_X11_way_69 at hf
  cases hf
  exact z_ireturn hE rfl dX11_way_69
set_option maxRecDepth 20000 in
theorem zm_X11_way {N : Nat} {sh : Sh} {d : Dt} {l0 : Nat} {l1 : Int32} {l2 : Int32} {r : Int32 × Dt} (hf : f_X11_way N sh l0 l1 l2 d = some r) : isO sh l0 11 ∧ ∀ (l : Launch) (G : GG), Mt l G yX11_way cX11_way 4 (some .int) 6 [.ref l0, .int l1, .int l2] (sh, d) (some (.int r.1)) (sh, r.2) := by
  have hf0 := hf
  unfold f_X11_way at hf
  refine ite_d hf (fun hO hf => ?_) (fun _ hf => ?_)
  · refine ⟨hO, fun l G => mt_of (Or.inl (by decide)) (Nat.le_of_ble_eq_true rfl) Le.rf (fun E hE => ?_)⟩
    show Z E yX11_way cX11_way 4 (some .int) 6 (sh, d) 0 [(0, .ref l0), (1, .int l1), (2, .int l2)] []
    refine z_aload_n 0 dX11_way_0 rfl rfl ?_
    refine z_gP (ci := 11) (k := 1) (C := RX11) (T := TX11) (N := 14) rfl inlX11 (by decide) mw_1_19 (fun _ _ _ _ h9 => h9) hf (by decide) rfl dX11_way_1  (fun v1 hf => ?_)
    refine z_iload_n 1 dX11_way_4 rfl rfl ?_
    obtain ⟨v2, ev2, hf⟩ := ob hf
    refine z_cVi (ci := 1) (T := TX1) (N := 8) (As := [.int l1]) (rest := []) (zm_X1_hasCrossing ev2).2 (zm_X1_hasCrossing ev2).1 (by decide) rfl (Or.inl rfl) mw_12_14 mw_12_15 mw_12_16 mw_1_18 mw_12_17 yk_X1_hasCrossing (by decide) (by decide) rfl (Nat.le_of_ble_eq_true rfl) rfl dX11_way_5 ?_
    refine z_if_eq 22 hf dX11_way_8 (by decide) (fun hf => ?_) (fun hf => ?_)
    · refine z_lv [(0, .ref l0)] [0] rfl ?_
      exact zb_X11_way_22 hE hf
    · refine z_aload_n 0 dX11_way_11 rfl rfl ?_
      refine z_gP (ci := 11) (k := 1) (C := RX11) (T := TX11) (N := 14) rfl inlX11 (by decide) mw_1_19 (fun _ _ _ _ h9 => h9) hf (by decide) rfl dX11_way_12  (fun v3 hf => ?_)
      refine z_iload_n 2 dX11_way_15 rfl rfl ?_
      obtain ⟨v4, ev4, hf⟩ := ob hf
      refine z_cVi (ci := 1) (T := TX1) (N := 8) (As := [.int l2]) (rest := []) (zm_X1_hasCrossing ev4).2 (zm_X1_hasCrossing ev4).1 (by decide) rfl (Or.inl rfl) mw_12_14 mw_12_15 mw_12_16 mw_1_18 mw_12_17 yk_X1_hasCrossing (by decide) (by decide) rfl (Nat.le_of_ble_eq_true rfl) rfl dX11_way_16 ?_
      refine z_if_ne 29 hf dX11_way_19 (by decide) (fun hf => ?_) (fun hf => ?_)
      · refine z_aload_n 0 dX11_way_29 rfl rfl ?_
        refine z_gP (ci := 11) (k := 3) (C := RX11) (T := TX11) (N := 14) rfl inlX11 (by decide) mw_2_0 (fun _ _ _ _ h9 => h9) hf (by decide) rfl dX11_way_30  (fun v5 hf => ?_)
        refine z_lconst 1 1 dX11_way_33 (by decide) ?_
        refine z_iload_n 2 dX11_way_34 rfl rfl ?_
        refine z_lshl dX11_way_35 ?_
        obtain ⟨v6, ev6, hf⟩ := ob hf
        refine z_cVv (ci := 10) (T := TX10) (N := 6) (As := [.long ((1 : Int64) <<< (l2.toInt64 &&& 63))]) (rest := []) (zm_X10_measureEach ev6).2 (zm_X10_measureEach ev6).1 (by decide) rfl (Or.inl rfl) mw_15_20 mw_15_21 mw_15_22 mw_1_23 mw_15_23 yk_X10_measureEach (by decide) (by decide) rfl (Nat.le_of_ble_eq_true rfl) rfl dX11_way_36 ?_
        refine z_aload_n 0 dX11_way_39 rfl rfl ?_
        refine z_gP (ci := 11) (k := 3) (C := RX11) (T := TX11) (N := 14) rfl inlX11 (by decide) mw_2_0 (fun _ _ _ _ h9 => h9) hf (by decide) rfl dX11_way_40  (fun v7 hf => ?_)
        refine z_iload_n 1 dX11_way_43 rfl rfl ?_
        refine z_iload_n 2 dX11_way_44 rfl rfl ?_
        obtain ⟨v8, ev8, hf⟩ := ob hf
        refine z_cVi (ci := 10) (T := TX10) (N := 6) (As := [.int l1, .int l2]) (rest := []) (zm_X10_between ev8).2 (zm_X10_between ev8).1 (by decide) rfl (Or.inl rfl) mw_17_11 mw_17_12 mw_17_13 mw_1_23 mw_17_14 yk_X10_between (by decide) (by decide) rfl (Nat.le_of_ble_eq_true rfl) rfl dX11_way_45 ?_
        refine z_istore_n [(3, .int v8), (0, .ref l0), (1, .int l1), (2, .int l2)] dX11_way_48 rfl (by decide) rfl ?_
        refine z_iload_n 0 dX11_way_49 rfl rfl ?_
        refine z_ldc mw_15_19 dX11_way_50 ?_
        refine z_icmp_lt 64 hf dX11_way_52 (by decide) (fun hf => ?_) (fun hf => ?_)
        · refine z_aload_n 1 dX11_way_64 rfl rfl ?_
          refine z_iload_n 0 dX11_way_65 rfl rfl ?_
          obtain ⟨v9, ev9, hf⟩ := ob hf
          refine z_cVi (ci := 11) (T := TX11) (N := 14) (As := [.int v8]) (rest := []) (zm_X11_answer ev9).2 (zm_X11_answer ev9).1 (by decide) rfl (Or.inl rfl) mw_11_2 mw_11_3 mw_11_4 mw_1_2 mw_11_5 yk_X11_answer (by decide) (by decide) rfl (Nat.le_of_ble_eq_true rfl) rfl dX11_way_66 ?_
          refine z_lv [] [] rfl ?_
          exact zb_X11_way_69 hE hf
        · refine z_aload_n 1 dX11_way_55 rfl rfl ?_
          refine z_bipush (-8) (-8) dX11_way_56 (by decide) ?_
          obtain ⟨v10, ev10, hf⟩ := ob hf
          refine z_cVi (ci := 11) (T := TX11) (N := 14) (As := [.int (-8 : Int32)]) (rest := []) (zm_X11_refuse ev10).2 (zm_X11_refuse ev10).1 (by decide) rfl (Or.inl rfl) mw_7_22 mw_7_23 mw_8_0 mw_1_2 mw_8_1 yk_X11_refuse (by decide) (by decide) rfl (Nat.le_of_ble_eq_true rfl) rfl dX11_way_58 ?_
          refine z_goto 69 dX11_way_61 (by decide) ?_
          refine z_lv [] [] rfl ?_
          exact zb_X11_way_69 hE hf
      · refine z_lv [(0, .ref l0)] [0] rfl ?_
        exact zb_X11_way_22 hE hf
  · cases hf
set_option maxRecDepth 20000 in
theorem zb_X11_wayAt_22 {N : Nat} {sh : Sh} {r : Int32 × Dt} {E : EV} (hE : TG E (some (.int r.1)) (sh, r.2))  {l0 : Nat} {d : Dt} (hf : f_X11_wayAt_22 N sh l0 d = some r) : Z E yX11_wayAt cX11_wayAt 4 (some .int) 6 (sh, d) 22 [(0, .ref l0)] [] := by
  unfold f_X11_wayAt_22 at hf
  refine z_aload_n 0 dX11_wayAt_22 rfl rfl ?_
  refine z_bipush (-2) (-2) dX11_wayAt_23 (by decide) ?_
  obtain ⟨v13, ev13, hf⟩ := ob hf
  refine z_cVi (ci := 11) (T := TX11) (N := 14) (As := [.int (-2 : Int32)]) (rest := []) (zm_X11_refuse ev13).2 (zm_X11_refuse ev13).1 (by decide) rfl (Or.inl rfl) mw_7_22 mw_7_23 mw_8_0 mw_1_2 mw_8_1 yk_X11_refuse (by decide) (by decide) rfl (Nat.le_of_ble_eq_true rfl) rfl dX11_wayAt_25 ?_
  cases hf
  exact z_ireturn hE rfl dX11_wayAt_28
set_option maxRecDepth 20000 in
theorem zm_X11_wayAt {N : Nat} {sh : Sh} {d : Dt} {l0 : Nat} {l1 : Int32} {l2 : Int32} {l3 : Int32} {r : Int32 × Dt} (hf : f_X11_wayAt N sh l0 l1 l2 l3 d = some r) : isO sh l0 11 ∧ ∀ (l : Launch) (G : GG), Mt l G yX11_wayAt cX11_wayAt 4 (some .int) 6 [.ref l0, .int l1, .int l2, .int l3] (sh, d) (some (.int r.1)) (sh, r.2) := by
  have hf0 := hf
  unfold f_X11_wayAt at hf
  refine ite_d hf (fun hO hf => ?_) (fun _ hf => ?_)
  · refine ⟨hO, fun l G => mt_of (Or.inl (by decide)) (Nat.le_of_ble_eq_true rfl) Le.rf (fun E hE => ?_)⟩
    show Z E yX11_wayAt cX11_wayAt 4 (some .int) 6 (sh, d) 0 [(0, .ref l0), (1, .int l1), (2, .int l2), (3, .int l3)] []
    refine z_aload_n 0 dX11_wayAt_0 rfl rfl ?_
    refine z_gP (ci := 11) (k := 1) (C := RX11) (T := TX11) (N := 14) rfl inlX11 (by decide) mw_1_19 (fun _ _ _ _ h9 => h9) hf (by decide) rfl dX11_wayAt_1  (fun v1 hf => ?_)
    refine z_iload_n 1 dX11_wayAt_4 rfl rfl ?_
    obtain ⟨v2, ev2, hf⟩ := ob hf
    refine z_cVi (ci := 1) (T := TX1) (N := 8) (As := [.int l1]) (rest := []) (zm_X1_hasCrossing ev2).2 (zm_X1_hasCrossing ev2).1 (by decide) rfl (Or.inl rfl) mw_12_14 mw_12_15 mw_12_16 mw_1_18 mw_12_17 yk_X1_hasCrossing (by decide) (by decide) rfl (Nat.le_of_ble_eq_true rfl) rfl dX11_wayAt_5 ?_
    refine z_if_eq 22 hf dX11_wayAt_8 (by decide) (fun hf => ?_) (fun hf => ?_)
    · refine z_lv [(0, .ref l0)] [0] rfl ?_
      exact zb_X11_wayAt_22 hE hf
    · refine z_aload_n 0 dX11_wayAt_11 rfl rfl ?_
      refine z_gP (ci := 11) (k := 1) (C := RX11) (T := TX11) (N := 14) rfl inlX11 (by decide) mw_1_19 (fun _ _ _ _ h9 => h9) hf (by decide) rfl dX11_wayAt_12  (fun v3 hf => ?_)
      refine z_iload_n 2 dX11_wayAt_15 rfl rfl ?_
      obtain ⟨v4, ev4, hf⟩ := ob hf
      refine z_cVi (ci := 1) (T := TX1) (N := 8) (As := [.int l2]) (rest := []) (zm_X1_hasCrossing ev4).2 (zm_X1_hasCrossing ev4).1 (by decide) rfl (Or.inl rfl) mw_12_14 mw_12_15 mw_12_16 mw_1_18 mw_12_17 yk_X1_hasCrossing (by decide) (by decide) rfl (Nat.le_of_ble_eq_true rfl) rfl dX11_wayAt_16 ?_
      refine z_if_ne 29 hf dX11_wayAt_19 (by decide) (fun hf => ?_) (fun hf => ?_)
      · refine z_aload_n 0 dX11_wayAt_29 rfl rfl ?_
        refine z_gP (ci := 11) (k := 3) (C := RX11) (T := TX11) (N := 14) rfl inlX11 (by decide) mw_2_0 (fun _ _ _ _ h9 => h9) hf (by decide) rfl dX11_wayAt_30  (fun v5 hf => ?_)
        refine z_lconst 1 1 dX11_wayAt_33 (by decide) ?_
        refine z_iload_n 2 dX11_wayAt_34 rfl rfl ?_
        refine z_lshl dX11_wayAt_35 ?_
        obtain ⟨v6, ev6, hf⟩ := ob hf
        refine z_cVv (ci := 10) (T := TX10) (N := 6) (As := [.long ((1 : Int64) <<< (l2.toInt64 &&& 63))]) (rest := []) (zm_X10_measureEach ev6).2 (zm_X10_measureEach ev6).1 (by decide) rfl (Or.inl rfl) mw_15_20 mw_15_21 mw_15_22 mw_1_23 mw_15_23 yk_X10_measureEach (by decide) (by decide) rfl (Nat.le_of_ble_eq_true rfl) rfl dX11_wayAt_36 ?_
        refine z_aload_n 0 dX11_wayAt_39 rfl rfl ?_
        refine z_gP (ci := 11) (k := 3) (C := RX11) (T := TX11) (N := 14) rfl inlX11 (by decide) mw_2_0 (fun _ _ _ _ h9 => h9) hf (by decide) rfl dX11_wayAt_40  (fun v7 hf => ?_)
        refine z_iload_n 1 dX11_wayAt_43 rfl rfl ?_
        refine z_iload_n 2 dX11_wayAt_44 rfl rfl ?_
        obtain ⟨v8, ev8, hf⟩ := ob hf
        refine z_cVi (ci := 10) (T := TX10) (N := 6) (As := [.int l1, .int l2]) (rest := []) (zm_X10_between ev8).2 (zm_X10_between ev8).1 (by decide) rfl (Or.inl rfl) mw_17_11 mw_17_12 mw_17_13 mw_1_23 mw_17_14 yk_X10_between (by decide) (by decide) rfl (Nat.le_of_ble_eq_true rfl) rfl dX11_wayAt_45 ?_
        refine z_ldc mw_15_19 dX11_wayAt_48 ?_
        refine z_icmp_lt 60 hf dX11_wayAt_50 (by decide) (fun hf => ?_) (fun hf => ?_)
        · refine z_aload_n 0 dX11_wayAt_60 rfl rfl ?_
          refine z_aload_n 0 dX11_wayAt_61 rfl rfl ?_
          refine z_gP (ci := 11) (k := 3) (C := RX11) (T := TX11) (N := 14) rfl inlX11 (by decide) mw_2_0 (fun _ _ _ _ h9 => h9) hf (by decide) rfl dX11_wayAt_62  (fun v9 hf => ?_)
          refine z_iload_n 1 dX11_wayAt_65 rfl rfl ?_
          refine z_iload_n 2 dX11_wayAt_66 rfl rfl ?_
          refine z_iload_n 3 dX11_wayAt_67 rfl rfl ?_
          obtain ⟨v10, ev10, hf⟩ := ob hf
          refine z_cVi (ci := 10) (T := TX10) (N := 6) (As := [.int l1, .int l2, .int l3]) (rest := [.ref l0]) (zm_X10_streetAt ev10).2 (zm_X10_streetAt ev10).1 (by decide) rfl (Or.inl rfl) mw_18_16 mw_18_17 mw_18_18 mw_1_23 mw_18_19 yk_X10_streetAt (by decide) (by decide) rfl (Nat.le_of_ble_eq_true rfl) rfl dX11_wayAt_68 ?_
          obtain ⟨v11, ev11, hf⟩ := ob hf
          refine z_cVi (ci := 11) (T := TX11) (N := 14) (As := [.int v10]) (rest := []) (zm_X11_answer ev11).2 (zm_X11_answer ev11).1 (by decide) rfl (Or.inl rfl) mw_11_2 mw_11_3 mw_11_4 mw_1_2 mw_11_5 yk_X11_answer (by decide) (by decide) rfl (Nat.le_of_ble_eq_true rfl) rfl dX11_wayAt_71 ?_
          cases hf
          exact z_ireturn hE rfl dX11_wayAt_74
        · refine z_aload_n 0 dX11_wayAt_53 rfl rfl ?_
          refine z_bipush (-8) (-8) dX11_wayAt_54 (by decide) ?_
          obtain ⟨v12, ev12, hf⟩ := ob hf
          refine z_cVi (ci := 11) (T := TX11) (N := 14) (As := [.int (-8 : Int32)]) (rest := []) (zm_X11_refuse ev12).2 (zm_X11_refuse ev12).1 (by decide) rfl (Or.inl rfl) mw_7_22 mw_7_23 mw_8_0 mw_1_2 mw_8_1 yk_X11_refuse (by decide) (by decide) rfl (Nat.le_of_ble_eq_true rfl) rfl dX11_wayAt_56 ?_
          cases hf
          exact z_ireturn hE rfl dX11_wayAt_59
      · refine z_lv [(0, .ref l0)] [0] rfl ?_
        exact zb_X11_wayAt_22 hE hf
  · cases hf
