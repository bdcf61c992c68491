set_option maxRecDepth 20000 in
theorem le_X1_become_141 {N : Nat} {r : AS}   {s : AS} (hf : f_X1_become_141 N  s = some r) : Le s r := by
  unfold f_X1_become_141 at hf
  cases hf
  exact Le.rf
set_option maxRecDepth 20000 in
theorem zb_X1_become_141 {N : Nat} {r : AS} {E : EV} (hE : TG E none r)   {s : AS} (hf : f_X1_become_141 N  s = some r) : Z E yX1_become cX1_become 4 none 4 s 141 [] [] := by
  unfold f_X1_become_141 at hf
  cases hf
  exact z_return hE rfl dX1_become_141
set_option maxRecDepth 20000 in
theorem lg_X1_become_88 {N : Nat} {r : AS} {k88 : Nat → Nat → Int32 → AS → Option AS}  (hk88 : ∀ (l0 : Nat) (l1 : Nat) (l2 : Int32) (s : AS), k88 l0 l1 l2 s = some r → Le s r) {l0 : Nat} {l1 : Nat} {l2 : Int32} {s : AS} (hf : g_X1_become_88 N k88 l0 l1 l2 s = some r) : Le s r := by
  unfold g_X1_become_88 at hf
  obtain ⟨v22, -, hf⟩ := ob hf
  obtain ⟨v23, -, hf⟩ := ob hf
  split at hf
  · exact Le.via (le_X1_become_141 hf) rfl
  · obtain ⟨v24, -, hf⟩ := ob hf
    obtain ⟨v25, -, hf⟩ := ob hf
    obtain ⟨v26, -, hf⟩ := ob hf
    obtain ⟨v27, -, hf⟩ := ob hf
    obtain ⟨d28, -, hf⟩ := ob hf
    exact Le.via (hk88 _ _ _ _ hf) rfl
set_option maxRecDepth 20000 in
theorem le_X1_become_88 {N : Nat} {r : AS}  : ∀ (n : Nat) (l0 : Nat) (l1 : Nat) (l2 : Int32) (s : AS), f_X1_become_88 N n l0 l1 l2 s = some r → Le s r := by
  intro n
  induction n with
  | zero => intro l0 l1 l2 s hf; cases hf
  | succ n ih => intro l0 l1 l2 s hf; exact lg_X1_become_88 ih hf
set_option maxRecDepth 20000 in
theorem zg_X1_become_88 {N : Nat} {r : AS} {k88 : Nat → Nat → Int32 → AS → Option AS} {E : EV} (hE : TG E none r)  (hk88 : ∀ (l0 : Nat) (l1 : Nat) (l2 : Int32) (s : AS), k88 l0 l1 l2 s = some r → Z E yX1_become cX1_become 4 none 4 s 88 [(0, .ref l0), (1, .ref l1), (2, .int l2)] []) {l0 : Nat} {l1 : Nat} {l2 : Int32} {s : AS} (hf : g_X1_become_88 N k88 l0 l1 l2 s = some r) : Z E yX1_become cX1_become 4 none 4 s 88 [(0, .ref l0), (1, .ref l1), (2, .int l2)] [] := by
  unfold g_X1_become_88 at hf
  refine z_iload_n 2 dX1_become_88 rfl rfl ?_
  refine z_aload_n 0 dX1_become_89 rfl rfl ?_
  refine z_gP (ci := 1) (k := 2) (C := RX1) (T := TX1) (N := 8) rfl inlX1 (by decide) mw_3_15 (fun _ _ _ _ h9 => h9) hf (by decide) rfl dX1_become_90  (fun v22 hf => ?_)
  refine z_gI (ci := 8) (k := 1) (C := RX8) (T := TX8) (N := 2) rfl inlX8 (by decide) mw_8_19 (fun _ _ _ _ h9 => h9) hf (by decide) rfl dX1_become_93  (fun v23 hf => ?_)
  refine z_icmp_ge 141 hf dX1_become_96 (by decide) (fun hf => ?_) (fun hf => ?_)
  · refine z_lv [] [] rfl ?_
    exact zb_X1_become_141 hE hf
  · refine z_iconst 0 0 dX1_become_99 (by decide) ?_
    refine z_aload_n 0 dX1_become_100 rfl rfl ?_
    refine z_gP (ci := 1) (k := 2) (C := RX1) (T := TX1) (N := 8) rfl inlX1 (by decide) mw_3_15 (fun _ _ _ _ h9 => h9) hf (by decide) rfl dX1_become_101  (fun v24 hf => ?_)
    refine z_iload_n 2 dX1_become_104 rfl rfl ?_
    refine z_iconst 2 2 dX1_become_105 (by decide) ?_
    obtain ⟨v25, ev25, hf⟩ := ob hf
    refine z_cVi (ci := 8) (T := TX8) (N := 2) (As := [.int l2, .int (2 : Int32)]) (rest := [.int (0 : Int32)]) (zm_X8_get ev25).2 (zm_X8_get ev25).1 (by decide) rfl (Or.inl rfl) mw_10_10 mw_10_11 mw_10_12 mw_3_13 mw_10_13 yk_X8_get (by decide) (by decide) rfl (Nat.le_of_ble_eq_true rfl) rfl dX1_become_106 ?_
    refine z_max mw_8_20 mw_8_21 mw_8_22 mw_8_23 (by decide) (Nat.le_of_ble_eq_true rfl) dX1_become_109 ?_
    refine z_istore_n [(3, .int (o_max (0 : Int32) v25)), (0, .ref l0), (1, .ref l1), (2, .int l2)] dX1_become_112 rfl (by decide) rfl ?_
    refine z_aload_n 2 dX1_become_113 rfl rfl ?_
    refine z_gQ (ci := 1) (k := 7) (C := RX1) (T := TX1) (N := 8) rfl inlX1 (by decide) mw_3_21 (fun _ _ _ _ h9 => h9) hf (by decide) rfl dX1_become_114  (fun v26 hf => ?_)
    refine z_iload_n 3 dX1_become_117 rfl rfl ?_
    refine z_sipush 200 200 dX1_become_118 (by decide) ?_
    refine z_imul dX1_become_121 ?_
    refine z_aload_n 1 dX1_become_122 rfl rfl ?_
    refine z_gQ (ci := 1) (k := 7) (C := RX1) (T := TX1) (N := 8) rfl inlX1 (by decide) mw_3_21 (fun _ _ _ _ h9 => h9) hf (by decide) rfl dX1_become_123  (fun v27 hf => ?_)
    refine z_iload_n 3 dX1_become_126 rfl rfl ?_
    refine z_sipush 200 200 dX1_become_127 (by decide) ?_
    refine z_imul dX1_become_130 ?_
    refine z_iload_n 0 dX1_become_131 rfl rfl ?_
    refine z_cpy hf mw_8_15 mw_8_16 mw_8_17 mw_8_18 (by decide) (Nat.le_of_ble_eq_true rfl) dX1_become_132 (fun d28 hf => ?_)
    refine z_iinc [(2, .int (l2 + 1)), (3, .int (o_max (0 : Int32) v25)), (0, .ref l0), (1, .ref l1)] 3 (l2 + 1) dX1_become_135 rfl rfl (by decide) rfl ?_
    refine z_goto 88 dX1_become_138 (by decide) ?_
    refine z_lv [(0, .ref l0), (1, .ref l1), (2, .int (l2 + 1))] [2, 3, 0] rfl ?_
    exact hk88 _ _ _ _ hf
set_option maxRecDepth 20000 in
theorem zb_X1_become_88 {N : Nat} {r : AS} {E : EV} (hE : TG E none r)  : ∀ (n : Nat) (l0 : Nat) (l1 : Nat) (l2 : Int32) (s : AS), f_X1_become_88 N n l0 l1 l2 s = some r → Z E yX1_become cX1_become 4 none 4 s 88 [(0, .ref l0), (1, .ref l1), (2, .int l2)] [] := by
  intro n
  induction n with
  | zero => intro l0 l1 l2 s hf; cases hf
  | succ n ih => intro l0 l1 l2 s hf; exact zg_X1_become_88 hE ih hf
set_option maxRecDepth 20000 in
theorem le_X1_become_86 {N : Nat} {r : AS}  {l0 : Nat} {l1 : Nat} {s : AS} (hf : f_X1_become_86 N l0 l1 s = some r) : Le s r := by
  unfold f_X1_become_86 at hf
  exact Le.via (le_X1_become_88 N _ _ _ _ hf) rfl
set_option maxRecDepth 20000 in
theorem zb_X1_become_86 {N : Nat} {r : AS} {E : EV} (hE : TG E none r)  {l0 : Nat} {l1 : Nat} {s : AS} (hf : f_X1_become_86 N l0 l1 s = some r) : Z E yX1_become cX1_become 4 none 4 s 86 [(0, .ref l0), (1, .ref l1)] [] := by
  unfold f_X1_become_86 at hf
  refine z_iconst 0 0 dX1_become_86 (by decide) ?_
  refine z_istore_n [(2, .int (0 : Int32)), (0, .ref l0), (1, .ref l1)] dX1_become_87 rfl (by decide) rfl ?_
  refine z_lv [(0, .ref l0), (1, .ref l1), (2, .int (0 : Int32))] [1, 2, 0] rfl ?_
  exact zb_X1_become_88 hE N _ _ _ _ hf
set_option maxRecDepth 20000 in
theorem le_X1_become_52 {N : Nat} {r : AS}  {l0 : Nat} {l1 : Nat} {s : AS} (hf : f_X1_become_52 N l0 l1 s = some r) : Le s r := by
  unfold f_X1_become_52 at hf
  obtain ⟨v15, -, hf⟩ := ob hf
  obtain ⟨v16, -, hf⟩ := ob hf
  obtain ⟨d17, -, hf⟩ := ob hf
  obtain ⟨v18, -, hf⟩ := ob hf
  obtain ⟨v19, -, hf⟩ := ob hf
  obtain ⟨d20, -, hf⟩ := ob hf
  obtain ⟨v21, ev21, hf⟩ := ob hf
  refine Le.of (t := (s.1, d20)) rfl ((lm_X1_widenCells ev21).tr ?_)
  exact Le.via (le_X1_become_86 hf) rfl
set_option maxRecDepth 20000 in
theorem zb_X1_become_52 {N : Nat} {r : AS} {E : EV} (hE : TG E none r)  {l0 : Nat} {l1 : Nat} {s : AS} (hf : f_X1_become_52 N l0 l1 s = some r) : Z E yX1_become cX1_become 4 none 4 s 52 [(0, .ref l0), (1, .ref l1)] [] := by
  unfold f_X1_become_52 at hf
  refine z_aload_n 1 dX1_become_52 rfl rfl ?_
  refine z_gP (ci := 1) (k := 5) (C := RX1) (T := TX1) (N := 8) rfl inlX1 (by decide) mw_3_18 (fun _ _ _ _ h9 => h9) hf (by decide) rfl dX1_become_53  (fun v15 hf => ?_)
  refine z_iconst 0 0 dX1_become_56 (by decide) ?_
  refine z_aload_n 0 dX1_become_57 rfl rfl ?_
  refine z_gP (ci := 1) (k := 5) (C := RX1) (T := TX1) (N := 8) rfl inlX1 (by decide) mw_3_18 (fun _ _ _ _ h9 => h9) hf (by decide) rfl dX1_become_58  (fun v16 hf => ?_)
  refine z_iconst 0 0 dX1_become_61 (by decide) ?_
  refine z_bipush 7 7 dX1_become_62 (by decide) ?_
  refine z_cpy hf mw_8_15 mw_8_16 mw_8_17 mw_8_18 (by decide) (Nat.le_of_ble_eq_true rfl) dX1_become_64 (fun d17 hf => ?_)
  refine z_aload_n 1 dX1_become_67 rfl rfl ?_
  refine z_gP (ci := 1) (k := 6) (C := RX1) (T := TX1) (N := 8) rfl inlX1 (by decide) mw_3_19 (fun _ _ _ _ h9 => h9) hf (by decide) rfl dX1_become_68  (fun v18 hf => ?_)
  refine z_iconst 0 0 dX1_become_71 (by decide) ?_
  refine z_aload_n 0 dX1_become_72 rfl rfl ?_
  refine z_gP (ci := 1) (k := 6) (C := RX1) (T := TX1) (N := 8) rfl inlX1 (by decide) mw_3_19 (fun _ _ _ _ h9 => h9) hf (by decide) rfl dX1_become_73  (fun v19 hf => ?_)
  refine z_iconst 0 0 dX1_become_76 (by decide) ?_
  refine z_bipush 60 60 dX1_become_77 (by decide) ?_
  refine z_cpy hf mw_8_15 mw_8_16 mw_8_17 mw_8_18 (by decide) (Nat.le_of_ble_eq_true rfl) dX1_become_79 (fun d20 hf => ?_)
  refine z_aload_n 0 dX1_become_82 rfl rfl ?_
  obtain ⟨v21, ev21, hf⟩ := ob hf
  refine z_cVv (ci := 1) (T := TX1) (N := 8) (As := []) (rest := []) (zm_X1_widenCells ev21).2 (zm_X1_widenCells ev21).1 (by decide) rfl (Or.inr (tg_le hE (le_X1_become_86 hf))) mw_9_23 mw_10_0 mw_10_1 mw_1_18 mw_10_2 yk_X1_widenCells (by decide) (by decide) rfl (Nat.le_of_ble_eq_true rfl) rfl dX1_become_83 ?_
  exact zb_X1_become_86 hE hf
set_option maxRecDepth 20000 in
theorem le_X1_become_41 {N : Nat} {r : AS}  {l0 : Nat} {l1 : Nat} {s : AS} (hf : f_X1_become_41 N l0 l1 s = some r) : Le s r := by
  unfold f_X1_become_41 at hf
  obtain ⟨v12, -, hf⟩ := ob hf
  obtain ⟨v13, -, hf⟩ := ob hf
  obtain ⟨v14, ev14, hf⟩ := ob hf
  refine Le.of (t := (s.1, s.2)) rfl ((lm_X8_become ev14).tr ?_)
  exact Le.via (le_X1_become_52 hf) rfl
set_option maxRecDepth 20000 in
theorem zb_X1_become_41 {N : Nat} {r : AS} {E : EV} (hE : TG E none r)  {l0 : Nat} {l1 : Nat} {s : AS} (hf : f_X1_become_41 N l0 l1 s = some r) : Z E yX1_become cX1_become 4 none 4 s 41 [(0, .ref l0), (1, .ref l1)] [] := by
  unfold f_X1_become_41 at hf
  refine z_aload_n 0 dX1_become_41 rfl rfl ?_
  refine z_gP (ci := 1) (k := 4) (C := RX1) (T := TX1) (N := 8) rfl inlX1 (by decide) mw_3_17 (fun _ _ _ _ h9 => h9) hf (by decide) rfl dX1_become_42  (fun v12 hf => ?_)
  refine z_aload_n 1 dX1_become_45 rfl rfl ?_
  refine z_gP (ci := 1) (k := 4) (C := RX1) (T := TX1) (N := 8) rfl inlX1 (by decide) mw_3_17 (fun _ _ _ _ h9 => h9) hf (by decide) rfl dX1_become_46  (fun v13 hf => ?_)
  obtain ⟨v14, ev14, hf⟩ := ob hf
  refine z_cVv (ci := 8) (T := TX8) (N := 2) (As := [.ref v13]) (rest := []) (zm_X8_become ev14).2 (zm_X8_become ev14).1 (by decide) rfl (Or.inr (tg_le hE (le_X1_become_52 hf))) mw_9_0 mw_9_1 mw_9_2 mw_3_13 mw_9_3 yk_X8_become (by decide) (by decide) rfl (Nat.le_of_ble_eq_true rfl) rfl dX1_become_49 ?_
  exact zb_X1_become_52 hE hf
set_option maxRecDepth 20000 in
theorem le_X1_become_30 {N : Nat} {r : AS}  {l0 : Nat} {l1 : Nat} {s : AS} (hf : f_X1_become_30 N l0 l1 s = some r) : Le s r := by
  unfold f_X1_become_30 at hf
  obtain ⟨v9, -, hf⟩ := ob hf
  obtain ⟨v10, -, hf⟩ := ob hf
  obtain ⟨v11, ev11, hf⟩ := ob hf
  refine Le.of (t := (s.1, s.2)) rfl ((lm_X8_become ev11).tr ?_)
  exact Le.via (le_X1_become_41 hf) rfl
set_option maxRecDepth 20000 in
theorem zb_X1_become_30 {N : Nat} {r : AS} {E : EV} (hE : TG E none r)  {l0 : Nat} {l1 : Nat} {s : AS} (hf : f_X1_become_30 N l0 l1 s = some r) : Z E yX1_become cX1_become 4 none 4 s 30 [(0, .ref l0), (1, .ref l1)] [] := by
  unfold f_X1_become_30 at hf
  refine z_aload_n 0 dX1_become_30 rfl rfl ?_
  refine z_gP (ci := 1) (k := 3) (C := RX1) (T := TX1) (N := 8) rfl inlX1 (by decide) mw_3_16 (fun _ _ _ _ h9 => h9) hf (by decide) rfl dX1_become_31  (fun v9 hf => ?_)
  refine z_aload_n 1 dX1_become_34 rfl rfl ?_
  refine z_gP (ci := 1) (k := 3) (C := RX1) (T := TX1) (N := 8) rfl inlX1 (by decide) mw_3_16 (fun _ _ _ _ h9 => h9) hf (by decide) rfl dX1_become_35  (fun v10 hf => ?_)
  obtain ⟨v11, ev11, hf⟩ := ob hf
  refine z_cVv (ci := 8) (T := TX8) (N := 2) (As := [.ref v10]) (rest := []) (zm_X8_become ev11).2 (zm_X8_become ev11).1 (by decide) rfl (Or.inr (tg_le hE (le_X1_become_41 hf))) mw_9_0 mw_9_1 mw_9_2 mw_3_13 mw_9_3 yk_X8_become (by decide) (by decide) rfl (Nat.le_of_ble_eq_true rfl) rfl dX1_become_38 ?_
  exact zb_X1_become_41 hE hf
set_option maxRecDepth 20000 in
theorem le_X1_become_19 {N : Nat} {r : AS}  {l0 : Nat} {l1 : Nat} {s : AS} (hf : f_X1_become_19 N l0 l1 s = some r) : Le s r := by
  unfold f_X1_become_19 at hf
  obtain ⟨v6, -, hf⟩ := ob hf
  obtain ⟨v7, -, hf⟩ := ob hf
  obtain ⟨v8, ev8, hf⟩ := ob hf
  refine Le.of (t := (s.1, s.2)) rfl ((lm_X8_become ev8).tr ?_)
  exact Le.via (le_X1_become_30 hf) rfl
set_option maxRecDepth 20000 in
theorem zb_X1_become_19 {N : Nat} {r : AS} {E : EV} (hE : TG E none r)  {l0 : Nat} {l1 : Nat} {s : AS} (hf : f_X1_become_19 N l0 l1 s = some r) : Z E yX1_become cX1_become 4 none 4 s 19 [(0, .ref l0), (1, .ref l1)] [] := by
  unfold f_X1_become_19 at hf
  refine z_aload_n 0 dX1_become_19 rfl rfl ?_
  refine z_gP (ci := 1) (k := 2) (C := RX1) (T := TX1) (N := 8) rfl inlX1 (by decide) mw_3_15 (fun _ _ _ _ h9 => h9) hf (by decide) rfl dX1_become_20  (fun v6 hf => ?_)
  refine z_aload_n 1 dX1_become_23 rfl rfl ?_
  refine z_gP (ci := 1) (k := 2) (C := RX1) (T := TX1) (N := 8) rfl inlX1 (by decide) mw_3_15 (fun _ _ _ _ h9 => h9) hf (by decide) rfl dX1_become_24  (fun v7 hf => ?_)
  obtain ⟨v8, ev8, hf⟩ := ob hf
  refine z_cVv (ci := 8) (T := TX8) (N := 2) (As := [.ref v7]) (rest := []) (zm_X8_become ev8).2 (zm_X8_become ev8).1 (by decide) rfl (Or.inr (tg_le hE (le_X1_become_30 hf))) mw_9_0 mw_9_1 mw_9_2 mw_3_13 mw_9_3 yk_X8_become (by decide) (by decide) rfl (Nat.le_of_ble_eq_true rfl) rfl dX1_become_27 ?_
  exact zb_X1_become_30 hE hf
set_option maxRecDepth 20000 in
theorem lm_X1_become {N : Nat} {s : AS} {l0 : Nat} {l1 : Nat} {r : AS} (hf : f_X1_become N l0 l1 s = some r) : Le s r := by
  unfold f_X1_become at hf
  split at hf
  · skip
    obtain ⟨v1, -, hf⟩ := ob hf
    obtain ⟨d2, -, hf⟩ := ob hf
    obtain ⟨v3, -, hf⟩ := ob hf
    obtain ⟨v4, -, hf⟩ := ob hf
    obtain ⟨v5, ev5, hf⟩ := ob hf
    refine Le.of (t := (s.1, d2)) rfl ((lm_X8_become ev5).tr ?_)
    exact Le.via (le_X1_become_19 hf) rfl
  · cases hf
set_option maxRecDepth 20000 in
theorem zm_X1_become {N : Nat} {s : AS} {l0 : Nat} {l1 : Nat} {r : AS} (hf : f_X1_become N l0 l1 s = some r) : isO s.1 l0 1 ∧ ∀ (l : Launch) (G : GG), Mt l G yX1_become cX1_become 4 none 4 [.ref l0, .ref l1] s none r := by
  have hf0 := hf
  unfold f_X1_become at hf
  split at hf
  · rename_i hO
    refine ⟨hO, fun l G => mt_of (Or.inl (by decide)) (Nat.le_of_ble_eq_true rfl) (lm_X1_become hf0) (fun E hE => ?_)⟩
    show Z E yX1_become cX1_become 4 none 4 s 0 [(0, .ref l0), (1, .ref l1)] []
    refine z_aload_n 0 dX1_become_0 rfl rfl ?_
    refine z_aload_n 1 dX1_become_1 rfl rfl ?_
    refine z_gI (ci := 1) (k := 0) (C := RX1) (T := TX1) (N := 8) rfl inlX1 (by decide) mw_3_10 (fun _ _ _ _ h9 => h9) hf (by decide) rfl dX1_become_2  (fun v1 hf => ?_)
    refine z_pI (ci := 1) (k := 0) (C := RX1) (T := TX1) (N := 8) rfl inlX1 (by decide) mw_3_10 (fun _ _ _ _ h9 => h9) tyX1 tyX1_ok nmX1 rfl hf (Or.inl (by decide)) rfl rfl rfl dX1_become_5  (fun d2 hf => ?_)
    refine z_aload_n 0 dX1_become_8 rfl rfl ?_
    refine z_gP (ci := 1) (k := 1) (C := RX1) (T := TX1) (N := 8) rfl inlX1 (by decide) mw_3_14 (fun _ _ _ _ h9 => h9) hf (by decide) rfl dX1_become_9  (fun v3 hf => ?_)
    refine z_aload_n 1 dX1_become_12 rfl rfl ?_
    refine z_gP (ci := 1) (k := 1) (C := RX1) (T := TX1) (N := 8) rfl inlX1 (by decide) mw_3_14 (fun _ _ _ _ h9 => h9) hf (by decide) rfl dX1_become_13  (fun v4 hf => ?_)
    obtain ⟨v5, ev5, hf⟩ := ob hf
    refine z_cVv (ci := 8) (T := TX8) (N := 2) (As := [.ref v4]) (rest := []) (zm_X8_become ev5).2 (zm_X8_become ev5).1 (by decide) rfl (Or.inr (tg_le hE (le_X1_become_19 hf))) mw_9_0 mw_9_1 mw_9_2 mw_3_13 mw_9_3 yk_X8_become (by decide) (by decide) rfl (Nat.le_of_ble_eq_true rfl) rfl dX1_become_16 ?_
    exact zb_X1_become_19 hE hf
  · cases hf
set_option maxRecDepth 20000 in
theorem zm_X4_forget {N : Nat} {sh : Sh} {d : Dt} {l0 : Nat} {r : Dt} (hf : f_X4_forget N sh l0 d = some r) : isO sh l0 4 ∧ ∀ (l : Launch) (G : GG), Mt l G yX4_forget cX4_forget 1 none 1 [.ref l0] (sh, d) none (sh, r) := by
  have hf0 := hf
  unfold f_X4_forget at hf
  split at hf
  · rename_i hO
    refine ⟨hO, fun l G => mt_of (Or.inl (by decide)) (Nat.le_of_ble_eq_true rfl) Le.rf (fun E hE => ?_)⟩
    show Z E yX4_forget cX4_forget 1 none 1 (sh, d) 0 [(0, .ref l0)] []
    refine z_aload_n 0 dX4_forget_0 rfl rfl ?_
    refine z_iconst 0 0 dX4_forget_1 (by decide) ?_
    refine z_pI (ci := 4) (k := 4) (C := RX4) (T := TX4) (N := 12) rfl inlX4 (by decide) mw_5_2 (fun _ _ _ _ h9 => h9) tyX4 tyX4_ok nmX4 rfl hf (Or.inl (by decide)) rfl rfl rfl dX4_forget_2  (fun d1 hf => ?_)
    refine z_aload_n 0 dX4_forget_5 rfl rfl ?_
    refine z_iconst 0 0 dX4_forget_6 (by decide) ?_
    refine z_pI (ci := 4) (k := 7) (C := RX4) (T := TX4) (N := 12) rfl inlX4 (by decide) mw_5_6 (fun _ _ _ _ h9 => h9) tyX4 tyX4_ok nmX4 rfl hf (Or.inl (by decide)) rfl rfl rfl dX4_forget_7  (fun d2 hf => ?_)
    cases hf
    exact z_return hE rfl dX4_forget_10
  · cases hf
set_option maxRecDepth 20000 in
theorem zm_X11_forgetWays {N : Nat} {sh : Sh} {d : Dt} {l0 : Nat} {r : Dt} (hf : f_X11_forgetWays N sh l0 d = some r) : isO sh l0 11 ∧ ∀ (l : Launch) (G : GG), Mt l G yX11_forgetWays cX11_forgetWays 1 none 2 [.ref l0] (sh, d) none (sh, r) := by
  have hf0 := hf
  unfold f_X11_forgetWays at hf
  split at hf
  · rename_i hO
    refine ⟨hO, fun l G => mt_of (Or.inl (by decide)) (Nat.le_of_ble_eq_true rfl) Le.rf (fun E hE => ?_)⟩
    show Z E yX11_forgetWays cX11_forgetWays 1 none 2 (sh, d) 0 [(0, .ref l0)] []
    refine z_aload_n 0 dX11_forgetWays_0 rfl rfl ?_
    refine z_gP (ci := 11) (k := 3) (C := RX11) (T := TX11) (N := 14) rfl inlX11 (by decide) mw_2_0 (fun _ _ _ _ h9 => h9) hf (by decide) rfl dX11_forgetWays_1  (fun v1 hf => ?_)
    obtain ⟨v2, ev2, hf⟩ := ob hf
    refine z_cVv (ci := 10) (T := TX10) (N := 6) (As := []) (rest := []) (zm_X10_forget ev2).2 (zm_X10_forget ev2).1 (by decide) rfl (Or.inl rfl) mw_10_18 mw_10_19 mw_10_20 mw_1_23 mw_10_21 yk_X10_forget (by decide) (by decide) rfl (Nat.le_of_ble_eq_true rfl) rfl dX11_forgetWays_4 ?_
    refine z_aload_n 0 dX11_forgetWays_7 rfl rfl ?_
    refine z_gP (ci := 11) (k := 4) (C := RX11) (T := TX11) (N := 14) rfl inlX11 (by decide) mw_2_4 (fun _ _ _ _ h9 => h9) hf (by decide) rfl dX11_forgetWays_8  (fun v3 hf => ?_)
    obtain ⟨v4, ev4, hf⟩ := ob hf
    refine z_cVv (ci := 4) (T := TX4) (N := 12) (As := []) (rest := []) (zm_X4_forget ev4).2 (zm_X4_forget ev4).1 (by decide) rfl (Or.inl rfl) mw_10_22 mw_10_23 mw_11_0 mw_2_3 mw_11_1 yk_X4_forget (by decide) (by decide) rfl (Nat.le_of_ble_eq_true rfl) rfl dX11_forgetWays_11 ?_
    cases hf
    exact z_return hE rfl dX11_forgetWays_14
  · cases hf
set_option maxRecDepth 20000 in
theorem le_X11_change_11 {N : Nat} {r : AS}  {l0 : Nat} {s : AS} (hf : f_X11_change_11 N l0 s = some r) : Le s r := by
  unfold f_X11_change_11 at hf
  obtain ⟨d4, -, hf⟩ := ob hf
  obtain ⟨v5, -, hf⟩ := ob hf
  cases hf
  exact Le.rf
set_option maxRecDepth 20000 in
theorem zb_X11_change_11 {N : Nat} {r : AS} {E : EV} (hE : TG E none r)  {l0 : Nat} {s : AS} (hf : f_X11_change_11 N l0 s = some r) : Z E yX11_change cX11_change 1 none 5 s 11 [(0, .ref l0)] [] := by
  unfold f_X11_change_11 at hf
  refine z_aload_n 0 dX11_change_11 rfl rfl ?_
  refine z_iconst 1 1 dX11_change_12 (by decide) ?_
  refine z_pI (ci := 11) (k := 13) (C := RX11) (T := TX11) (N := 14) rfl inlX11 (by decide) mw_2_20 (fun _ _ _ _ h9 => h9) tyX11 tyX11_ok nmX11 rfl hf (Or.inl (by decide)) rfl rfl rfl dX11_change_13  (fun d4 hf => ?_)
  refine z_aload_n 0 dX11_change_16 rfl rfl ?_
  obtain ⟨v5, ev5, hf⟩ := ob hf
  refine z_cVv (ci := 11) (T := TX11) (N := 14) (As := []) (rest := []) (zm_X11_forgetWays ev5).2 (zm_X11_forgetWays ev5).1 (by decide) rfl (Or.inl rfl) mw_10_14 mw_10_15 mw_10_16 mw_1_2 mw_10_17 yk_X11_forgetWays (by decide) (by decide) rfl (Nat.le_of_ble_eq_true rfl) rfl dX11_change_17 ?_
  cases hf
  exact z_return hE rfl dX11_change_20
set_option maxRecDepth 20000 in
theorem lm_X11_change {N : Nat} {s : AS} {l0 : Nat} {r : AS} (hf : f_X11_change N l0 s = some r) : Le s r := by
  unfold f_X11_change at hf
  split at hf
  · skip
    obtain ⟨v1, -, hf⟩ := ob hf
    obtain ⟨v2, -, hf⟩ := ob hf
    obtain ⟨v3, ev3, hf⟩ := ob hf
    refine Le.of (t := (s.1, s.2)) rfl ((lm_X1_become ev3).tr ?_)
    exact Le.via (le_X11_change_11 hf) rfl
  · cases hf
set_option maxRecDepth 20000 in
theorem zm_X11_change {N : Nat} {s : AS} {l0 : Nat} {r : AS} (hf : f_X11_change N l0 s = some r) : isO s.1 l0 11 ∧ ∀ (l : Launch) (G : GG), Mt l G yX11_change cX11_change 1 none 5 [.ref l0] s none r := by
  have hf0 := hf
  unfold f_X11_change at hf
  split at hf
  · rename_i hO
    refine ⟨hO, fun l G => mt_of (Or.inl (by decide)) (Nat.le_of_ble_eq_true rfl) (lm_X11_change hf0) (fun E hE => ?_)⟩
    show Z E yX11_change cX11_change 1 none 5 s 0 [(0, .ref l0)] []
    refine z_aload_n 0 dX11_change_0 rfl rfl ?_
    refine z_gP (ci := 11) (k := 2) (C := RX11) (T := TX11) (N := 14) rfl inlX11 (by decide) mw_1_20 (fun _ _ _ _ h9 => h9) hf (by decide) rfl dX11_change_1  (fun v1 hf => ?_)
    refine z_aload_n 0 dX11_change_4 rfl rfl ?_
    refine z_gP (ci := 11) (k := 1) (C := RX11) (T := TX11) (N := 14) rfl inlX11 (by decide) mw_1_19 (fun _ _ _ _ h9 => h9) hf (by decide) rfl dX11_change_5  (fun v2 hf => ?_)
    obtain ⟨v3, ev3, hf⟩ := ob hf
    refine z_cVv (ci := 1) (T := TX1) (N := 8) (As := [.ref v2]) (rest := []) (zm_X1_become ev3).2 (zm_X1_become ev3).1 (by decide) rfl (Or.inr (tg_le hE (le_X11_change_11 hf))) mw_8_11 mw_8_12 mw_8_13 mw_1_18 mw_8_14 yk_X1_become (by decide) (by decide) rfl (Nat.le_of_ble_eq_true rfl) rfl dX11_change_8 ?_
    exact zb_X11_change_11 hE hf
  · cases hf
set_option maxRecDepth 20000 in
theorem zb_X8_put_34 {N : Nat} {sh : Sh} {r : Dt} {E : EV} (hE : TG E none (sh, r))   {d : Dt} (hf : f_X8_put_34 N sh  d = some r) : Z E yX8_put cX8_put 4 none 1 (sh, d) 34 [] [] := by
  unfold f_X8_put_34 at hf
  cases hf
  exact z_return hE rfl dX8_put_34
set_option maxRecDepth 20000 in
theorem zm_X8_put {N : Nat} {sh : Sh} {d : Dt} {l0 : Nat} {l1 : Int32} {l2 : Int32} {l3 : Int32} {r : Dt} (hf : f_X8_put N sh l0 l1 l2 l3 d = some r) : isO sh l0 8 ∧ ∀ (l : Launch) (G : GG), Mt l G yX8_put cX8_put 4 none 1 [.ref l0, .int l1, .int l2, .int l3] (sh, d) none (sh, r) := by
  have hf0 := hf
  unfold f_X8_put at hf
  split at hf
  · rename_i hO
    refine ⟨hO, fun l G => mt_of (Or.inl (by decide)) (Nat.le_of_ble_eq_true rfl) Le.rf (fun E hE => ?_)⟩
    show Z E yX8_put cX8_put 4 none 1 (sh, d) 0 [(0, .ref l0), (1, .int l1), (2, .int l2), (3, .int l3)] []
    refine z_iload_n 1 dX8_put_0 rfl rfl ?_
    refine z_if_lt 34 hf dX8_put_1 (by decide) (fun hf => ?_) (fun hf => ?_)
    · refine z_lv [] [] rfl ?_
      exact zb_X8_put_34 hE hf
    · refine z_iload_n 1 dX8_put_4 rfl rfl ?_
      refine z_aload_n 0 dX8_put_5 rfl rfl ?_
      refine z_gI (ci := 8) (k := 1) (C := RX8) (T := TX8) (N := 2) rfl inlX8 (by decide) mw_4_2 (fun _ _ _ _ h9 => h9) hf (by decide) rfl dX8_put_6  (fun v1 hf => ?_)
      refine z_icmp_ge 34 hf dX8_put_9 (by decide) (fun hf => ?_) (fun hf => ?_)
      · refine z_lv [] [] rfl ?_
        exact zb_X8_put_34 hE hf
      · refine z_iload_n 2 dX8_put_12 rfl rfl ?_
        refine z_if_lt 34 hf dX8_put_13 (by decide) (fun hf => ?_) (fun hf => ?_)
        · refine z_lv [] [] rfl ?_
          exact zb_X8_put_34 hE hf
        · refine z_iload_n 2 dX8_put_16 rfl rfl ?_
          refine z_aload_n 0 dX8_put_17 rfl rfl ?_
          refine z_gP (ci := 8) (k := 0) (C := RX8) (T := TX8) (N := 2) rfl inlX8 (by decide) mw_4_4 (fun _ _ _ _ h9 => h9) hf (by decide) rfl dX8_put_18  (fun v2 hf => ?_)
          refine z_aLen hf dX8_put_21  (fun v3 hf => ?_)
          refine z_icmp_ge 34 hf dX8_put_22 (by decide) (fun hf => ?_) (fun hf => ?_)
          · refine z_lv [] [] rfl ?_
            exact zb_X8_put_34 hE hf
          · refine z_aload_n 0 dX8_put_25 rfl rfl ?_
            refine z_gP (ci := 8) (k := 0) (C := RX8) (T := TX8) (N := 2) rfl inlX8 (by decide) mw_4_4 (fun _ _ _ _ h9 => h9) hf (by decide) rfl dX8_put_26  (fun v4 hf => ?_)
            refine z_iload_n 2 dX8_put_29 rfl rfl ?_
            refine z_aR hf dX8_put_30  (fun v5 hf => ?_)
            refine z_iload_n 1 dX8_put_31 rfl rfl ?_
            refine z_iload_n 3 dX8_put_32 rfl rfl ?_
            refine z_sI hf dX8_put_33  (fun d6 hf => ?_)
            refine z_lv [] [] rfl ?_
            exact zb_X8_put_34 hE hf
  · cases hf
set_option maxRecDepth 20000 in
theorem le_X11_become_39 {N : Nat} {r : Int32 × AS}  {l0 : Nat} {l1 : Int32} {l2 : Int32} {l3 : Int32} {l4 : Int32} {s : AS} (hf : f_X11_become_39 N l0 l1 l2 l3 l4 s = some r) : Le s r.2 := by
  unfold f_X11_become_39 at hf
  obtain ⟨v9, -, hf⟩ := ob hf
  obtain ⟨v10, -, hf⟩ := ob hf
  obtain ⟨v11, -, hf⟩ := ob hf
  obtain ⟨v12, -, hf⟩ := ob hf
  cases hf
  exact Le.rf
set_option maxRecDepth 20000 in
theorem zb_X11_become_39 {N : Nat} {r : Int32 × AS} {E : EV} (hE : TG E (some (.int r.1)) r.2)  {l0 : Nat} {l1 : Int32} {l2 : Int32} {l3 : Int32} {l4 : Int32} {s : AS} (hf : f_X11_become_39 N l0 l1 l2 l3 l4 s = some r) : Z E yX11_become cX11_become 5 (some .int) 6 s 39 [(0, .ref l0), (1, .int l1), (2, .int l2), (3, .int l3), (4, .int l4)] [] := by
  unfold f_X11_become_39 at hf
  refine z_aload_n 0 dX11_become_39 rfl rfl ?_
  refine z_gP (ci := 11) (k := 1) (C := RX11) (T := TX11) (N := 14) rfl inlX11 (by decide) mw_1_19 (fun _ _ _ _ h9 => h9) hf (by decide) rfl dX11_become_40  (fun v9 hf => ?_)
  refine z_gP (ci := 1) (k := 1) (C := RX1) (T := TX1) (N := 8) rfl inlX1 (by decide) mw_12_12 (fun _ _ _ _ h9 => h9) hf (by decide) rfl dX11_become_43  (fun v10 hf => ?_)
  refine z_iload_n 1 dX11_become_46 rfl rfl ?_
  refine z_iload_n 2 dX11_become_47 rfl rfl ?_
  refine z_iload_n 3 dX11_become_48 rfl rfl ?_
  obtain ⟨v11, ev11, hf⟩ := ob hf
  refine z_cVv (ci := 8) (T := TX8) (N := 2) (As := [.int l1, .int l2, .int l3]) (rest := []) (zm_X8_put ev11).2 (zm_X8_put ev11).1 (by decide) rfl (Or.inl rfl) mw_12_22 mw_12_23 mw_13_0 mw_3_13 mw_13_1 yk_X8_put (by decide) (by decide) rfl (Nat.le_of_ble_eq_true rfl) rfl dX11_become_49 ?_
  refine z_aload_n 0 dX11_become_52 rfl rfl ?_
  refine z_iload 4 dX11_become_53 rfl ?_
  obtain ⟨v12, ev12, hf⟩ := ob hf
  refine z_cVi (ci := 11) (T := TX11) (N := 14) (As := [.int l4]) (rest := []) (zm_X11_answer ev12).2 (zm_X11_answer ev12).1 (by decide) rfl (Or.inl rfl) mw_11_2 mw_11_3 mw_11_4 mw_1_2 mw_11_5 yk_X11_answer (by decide) (by decide) rfl (Nat.le_of_ble_eq_true rfl) rfl dX11_become_55 ?_
  cases hf
  exact z_ireturn hE rfl dX11_become_58
set_option maxRecDepth 20000 in
theorem lm_X11_become {N : Nat} {s : AS} {l0 : Nat} {l1 : Int32} {l2 : Int32} {l3 : Int32} {r : Int32 × AS} (hf : f_X11_become N l0 l1 l2 l3 s = some r) : Le s r.2 := by
  unfold f_X11_become at hf
  split at hf
  · skip
    obtain ⟨v1, -, hf⟩ := ob hf
    obtain ⟨v2, -, hf⟩ := ob hf
    obtain ⟨v3, -, hf⟩ := ob hf
    split at hf
    · obtain ⟨v4, -, hf⟩ := ob hf
      obtain ⟨v5, -, hf⟩ := ob hf
      obtain ⟨v6, -, hf⟩ := ob hf
      obtain ⟨v7, ev7, hf⟩ := ob hf
      refine Le.of (t := (s.1, s.2)) rfl ((lm_X11_change ev7).tr ?_)
      exact Le.via (le_X11_become_39 hf) rfl
    · obtain ⟨v8, -, hf⟩ := ob hf
      cases hf
      exact Le.rf
  · cases hf
set_option maxRecDepth 20000 in
theorem zm_X11_become {N : Nat} {s : AS} {l0 : Nat} {l1 : Int32} {l2 : Int32} {l3 : Int32} {r : Int32 × AS} (hf : f_X11_become N l0 l1 l2 l3 s = some r) : isO s.1 l0 11 ∧ ∀ (l : Launch) (G : GG), Mt l G yX11_become cX11_become 5 (some .int) 6 [.ref l0, .int l1, .int l2, .int l3] s (some (.int r.1)) r.2 := by
  have hf0 := hf
  unfold f_X11_become at hf
  split at hf
  · rename_i hO
    refine ⟨hO, fun l G => mt_of (Or.inl (by decide)) (Nat.le_of_ble_eq_true rfl) (lm_X11_become hf0) (fun E hE => ?_)⟩
    show Z E yX11_become cX11_become 5 (some .int) 6 s 0 [(0, .ref l0), (1, .int l1), (2, .int l2), (3, .int l3)] []
    refine z_aload_n 0 dX11_become_0 rfl rfl ?_
    refine z_gP (ci := 11) (k := 1) (C := RX11) (T := TX11) (N := 14) rfl inlX11 (by decide) mw_1_19 (fun _ _ _ _ h9 => h9) hf (by decide) rfl dX11_become_1  (fun v1 hf => ?_)
    refine z_gP (ci := 1) (k := 1) (C := RX1) (T := TX1) (N := 8) rfl inlX1 (by decide) mw_12_12 (fun _ _ _ _ h9 => h9) hf (by decide) rfl dX11_become_4  (fun v2 hf => ?_)
    refine z_iload_n 1 dX11_become_7 rfl rfl ?_
    obtain ⟨v3, ev3, hf⟩ := ob hf
    refine z_cVi (ci := 8) (T := TX8) (N := 2) (As := [.int l1]) (rest := []) (zm_X8_has ev3).2 (zm_X8_has ev3).1 (by decide) rfl (Or.inl rfl) mw_13_22 mw_13_23 mw_14_0 mw_3_13 mw_14_1 yk_X8_has (by decide) (by decide) rfl (Nat.le_of_ble_eq_true rfl) rfl dX11_become_8 ?_
    refine z_if_ne 21 hf dX11_become_11 (by decide) (fun hf => ?_) (fun hf => ?_)
    · refine z_aload_n 0 dX11_become_21 rfl rfl ?_
      refine z_gP (ci := 11) (k := 1) (C := RX11) (T := TX11) (N := 14) rfl inlX11 (by decide) mw_1_19 (fun _ _ _ _ h9 => h9) hf (by decide) rfl dX11_become_22  (fun v4 hf => ?_)
      refine z_gP (ci := 1) (k := 1) (C := RX1) (T := TX1) (N := 8) rfl inlX1 (by decide) mw_12_12 (fun _ _ _ _ h9 => h9) hf (by decide) rfl dX11_become_25  (fun v5 hf => ?_)
      refine z_iload_n 1 dX11_become_28 rfl rfl ?_
      refine z_iload_n 2 dX11_become_29 rfl rfl ?_
      obtain ⟨v6, ev6, hf⟩ := ob hf
      refine z_cVi (ci := 8) (T := TX8) (N := 2) (As := [.int l1, .int l2]) (rest := []) (zm_X8_get ev6).2 (zm_X8_get ev6).1 (by decide) rfl (Or.inl rfl) mw_14_2 mw_10_11 mw_10_12 mw_3_13 mw_10_13 yk_X8_get (by decide) (by decide) rfl (Nat.le_of_ble_eq_true rfl) rfl dX11_become_30 ?_
      refine z_istore [(4, .int v6), (0, .ref l0), (1, .int l1), (2, .int l2), (3, .int l3)] dX11_become_33 (by decide) rfl ?_
      refine z_aload_n 1 dX11_become_35 rfl rfl ?_
      obtain ⟨v7, ev7, hf⟩ := ob hf
      refine z_cVv (ci := 11) (T := TX11) (N := 14) (As := []) (rest := []) (zm_X11_change ev7).2 (zm_X11_change ev7).1 (by decide) rfl (Or.inr (tg_le hE (le_X11_become_39 hf))) mw_8_7 mw_8_8 mw_8_9 mw_1_2 mw_8_10 yk_X11_change (by decide) (by decide) rfl (Nat.le_of_ble_eq_true rfl) rfl dX11_become_36 ?_
      refine z_lv [(0, .ref l0), (1, .int l1), (2, .int l2), (3, .int l3), (4, .int v6)] [1, 2, 3, 4, 0] rfl ?_
      exact zb_X11_become_39 hE hf
    · refine z_aload_n 0 dX11_become_14 rfl rfl ?_
      refine z_bipush (-2) (-2) dX11_become_15 (by decide) ?_
      obtain ⟨v8, ev8, hf⟩ := ob hf
      refine z_cVi (ci := 11) (T := TX11) (N := 14) (As := [.int (-2 : Int32)]) (rest := []) (zm_X11_refuse ev8).2 (zm_X11_refuse ev8).1 (by decide) rfl (Or.inl rfl) mw_7_22 mw_7_23 mw_8_0 mw_1_2 mw_8_1 yk_X11_refuse (by decide) (by decide) rfl (Nat.le_of_ble_eq_true rfl) rfl dX11_become_17 ?_
      cases hf
      exact z_ireturn hE rfl dX11_become_20
  · cases hf
set_option maxRecDepth 20000 in
theorem le_X7_init_7 {N : Nat} {r : AS}   {s : AS} (hf : f_X7_init_7 N  s = some r) : Le s r := by
  unfold f_X7_init_7 at hf
  cases hf
  exact Le.rf
set_option maxRecDepth 20000 in
theorem zb_X7_init_7 {N : Nat} {r : AS} {E : EV} (hE : TG E none r)   {s : AS} (hf : f_X7_init_7 N  s = some r) : Z E yX7_init cX7_init 4 none 2 s 7 [] [] := by
  unfold f_X7_init_7 at hf
  cases hf
  exact z_return hE rfl dX7_init_7
set_option maxRecDepth 20000 in
theorem lm_X7_init {N : Nat} {s : AS} {l0 : Nat} {l1 : Nat} {l2 : Int32} {l3 : Int32} {r : AS} (hf : f_X7_init N l0 l1 l2 l3 s = some r) : Le s r := by
  unfold f_X7_init at hf
  split at hf
  · skip
    obtain ⟨v1, ev1, hf⟩ := ob hf
    refine Le.of (t := (s.1, s.2)) rfl ((lm_X6_init ev1).tr ?_)
    exact Le.via (le_X7_init_7 hf) rfl
  · cases hf
set_option maxRecDepth 20000 in
theorem zm_X7_init {N : Nat} {s : AS} {l0 : Nat} {l1 : Nat} {l2 : Int32} {l3 : Int32} {r : AS} (hf : f_X7_init N l0 l1 l2 l3 s = some r) : isO s.1 l0 7 ∧ ∀ (l : Launch) (G : GG), Mt l G yX7_init cX7_init 4 none 2 [.ref l0, .ref l1, .int l2, .int l3] s none r := by
  have hf0 := hf
  unfold f_X7_init at hf
  split at hf
  · rename_i hO
    refine ⟨hO, fun l G => mt_of (Or.inl (by decide)) (Nat.le_of_ble_eq_true rfl) (lm_X7_init hf0) (fun E hE => ?_)⟩
    show Z E yX7_init cX7_init 4 none 2 s 0 [(0, .ref l0), (1, .ref l1), (2, .int l2), (3, .int l3)] []
    refine z_aload_n 0 dX7_init_0 rfl rfl ?_
    refine z_aload_n 1 dX7_init_1 rfl rfl ?_
    refine z_iload_n 2 dX7_init_2 rfl rfl ?_
    refine z_iload_n 3 dX7_init_3 rfl rfl ?_
    obtain ⟨v1, ev1, hf⟩ := ob hf
    refine z_cI (As := [.ref l1, .int l2, .int l3]) (rest := []) (zm_X6_init ev1).2 (Or.inr (tg_le hE (le_X7_init_7 hf))) mw_30_13 mw_6_9 mw_2_22 mw_6_10 rfl yk_X6_init (by decide) (by decide) rfl (Nat.le_of_ble_eq_true rfl) rfl dX7_init_4 ?_
    refine z_lv [] [] rfl ?_
    exact zb_X7_init_7 hE hf
  · cases hf
set_option maxRecDepth 20000 in
theorem le_X9_init_7 {N : Nat} {r : AS}   {s : AS} (hf : f_X9_init_7 N  s = some r) : Le s r := by
  unfold f_X9_init_7 at hf
  cases hf
  exact Le.rf
set_option maxRecDepth 20000 in
theorem zb_X9_init_7 {N : Nat} {r : AS} {E : EV} (hE : TG E none r)   {s : AS} (hf : f_X9_init_7 N  s = some r) : Z E yX9_init cX9_init 4 none 2 s 7 [] [] := by
  unfold f_X9_init_7 at hf
  cases hf
  exact z_return hE rfl dX9_init_7
set_option maxRecDepth 20000 in
theorem lm_X9_init {N : Nat} {s : AS} {l0 : Nat} {l1 : Nat} {l2 : Int32} {l3 : Int32} {r : AS} (hf : f_X9_init N l0 l1 l2 l3 s = some r) : Le s r := by
  unfold f_X9_init at hf
  split at hf
  · skip
    obtain ⟨v1, ev1, hf⟩ := ob hf
    refine Le.of (t := (s.1, s.2)) rfl ((lm_X6_init ev1).tr ?_)
    exact Le.via (le_X9_init_7 hf) rfl
  · cases hf
set_option maxRecDepth 20000 in
theorem zm_X9_init {N : Nat} {s : AS} {l0 : Nat} {l1 : Nat} {l2 : Int32} {l3 : Int32} {r : AS} (hf : f_X9_init N l0 l1 l2 l3 s = some r) : isO s.1 l0 9 ∧ ∀ (l : Launch) (G : GG), Mt l G yX9_init cX9_init 4 none 2 [.ref l0, .ref l1, .int l2, .int l3] s none r := by
  have hf0 := hf
  unfold f_X9_init at hf
  split at hf
  · rename_i hO
    refine ⟨hO, fun l G => mt_of (Or.inl (by decide)) (Nat.le_of_ble_eq_true rfl) (lm_X9_init hf0) (fun E hE => ?_)⟩
    show Z E yX9_init cX9_init 4 none 2 s 0 [(0, .ref l0), (1, .ref l1), (2, .int l2), (3, .int l3)] []
    refine z_aload_n 0 dX9_init_0 rfl rfl ?_
    refine z_aload_n 1 dX9_init_1 rfl rfl ?_
    refine z_iload_n 2 dX9_init_2 rfl rfl ?_
    refine z_iload_n 3 dX9_init_3 rfl rfl ?_
    obtain ⟨v1, ev1, hf⟩ := ob hf
    refine z_cI (As := [.ref l1, .int l2, .int l3]) (rest := []) (zm_X6_init ev1).2 (Or.inr (tg_le hE (le_X9_init_7 hf))) mw_30_17 mw_6_9 mw_2_22 mw_6_10 rfl yk_X6_init (by decide) (by decide) rfl (Nat.le_of_ble_eq_true rfl) rfl dX9_init_4 ?_
    refine z_lv [] [] rfl ?_
    exact zb_X9_init_7 hE hf
  · cases hf
set_option maxRecDepth 20000 in
theorem le_X11_bodyOf_44 {N : Nat} {r : Nat × AS}  {t0 : Nat} {s : AS} (hf : f_X11_bodyOf_44 N t0 s = some r) : Le s r.2 := by
  unfold f_X11_bodyOf_44 at hf
  cases hf
  exact Le.rf
set_option maxRecDepth 20000 in
theorem zb_X11_bodyOf_44 {N : Nat} {r : Nat × AS} {E : EV} (hE : TG E (some (.ref r.1)) r.2)  {t0 : Nat} {s : AS} (hf : f_X11_bodyOf_44 N t0 s = some r) : Z E yX11_bodyOf cX11_bodyOf 2 (some (.object "PloughDepot$Plough")) 3 s 44 [] [.ref t0] := by
  unfold f_X11_bodyOf_44 at hf
  cases hf
  exact z_areturn hE rfl (by first | exact Or.inl ⟨_, rfl⟩ | exact Or.inr ⟨_, rfl⟩) dX11_bodyOf_44
set_option maxRecDepth 20000 in
theorem le_X11_bodyOf_31 {N : Nat} {r : Nat × AS}  {l0 : Nat} {t0 : Nat} {s : AS} (hf : f_X11_bodyOf_31 N l0 t0 s = some r) : Le s r.2 := by
  unfold f_X11_bodyOf_31 at hf
  obtain ⟨v4, -, hf⟩ := ob hf
  obtain ⟨v5, ev5, hf⟩ := ob hf
  refine Le.of (t := (s.1, s.2)) rfl ((lm_X0_init ev5).tr ?_)
  exact Le.via (le_X11_bodyOf_44 hf) rfl
set_option maxRecDepth 20000 in
theorem zb_X11_bodyOf_31 {N : Nat} {r : Nat × AS} {E : EV} (hE : TG E (some (.ref r.1)) r.2)  {l0 : Nat} {t0 : Nat} {s : AS} (hf : f_X11_bodyOf_31 N l0 t0 s = some r) : Z E yX11_bodyOf cX11_bodyOf 2 (some (.object "PloughDepot$Plough")) 3 s 31 [(0, .ref l0)] [.ref t0] := by
  unfold f_X11_bodyOf_31 at hf
  refine z_dup dX11_bodyOf_31 rfl ?_
  refine z_aload_n 0 dX11_bodyOf_32 rfl rfl ?_
  refine z_gP (ci := 11) (k := 0) (C := RX11) (T := TX11) (N := 14) rfl inlX11 (by decide) mw_1_15 (fun _ _ _ _ h9 => h9) hf (by decide) rfl dX11_bodyOf_33  (fun v4 hf => ?_)
  refine z_bipush 30 30 dX11_bodyOf_36 (by decide) ?_
  refine z_sipush 600 600 dX11_bodyOf_38 (by decide) ?_
  obtain ⟨v5, ev5, hf⟩ := ob hf
  refine z_cI (As := [.ref v4, .int (30 : Int32), .int (600 : Int32)]) (rest := [.ref t0]) (zm_X0_init ev5).2 (Or.inr (tg_le hE (le_X11_bodyOf_44 hf))) mw_30_6 mw_30_7 mw_29_23 mw_30_8 rfl yk_X0_init (by decide) (by decide) rfl (Nat.le_of_ble_eq_true rfl) rfl dX11_bodyOf_41 ?_
  refine z_lv [] [] rfl ?_
  exact zb_X11_bodyOf_44 hE hf
set_option maxRecDepth 20000 in
theorem le_X11_bodyOf_61 {N : Nat} {r : Nat × AS}  {t0 : Nat} {s : AS} (hf : f_X11_bodyOf_61 N t0 s = some r) : Le s r.2 := by
  unfold f_X11_bodyOf_61 at hf
  cases hf
  exact Le.rf
set_option maxRecDepth 20000 in
theorem zb_X11_bodyOf_61 {N : Nat} {r : Nat × AS} {E : EV} (hE : TG E (some (.ref r.1)) r.2)  {t0 : Nat} {s : AS} (hf : f_X11_bodyOf_61 N t0 s = some r) : Z E yX11_bodyOf cX11_bodyOf 2 (some (.object "PloughDepot$Plough")) 3 s 61 [] [.ref t0] := by
  unfold f_X11_bodyOf_61 at hf
  cases hf
  exact z_areturn hE rfl (by first | exact Or.inl ⟨_, rfl⟩ | exact Or.inr ⟨_, rfl⟩) dX11_bodyOf_61
set_option maxRecDepth 20000 in
theorem le_X11_bodyOf_48 {N : Nat} {r : Nat × AS}  {l0 : Nat} {t0 : Nat} {s : AS} (hf : f_X11_bodyOf_48 N l0 t0 s = some r) : Le s r.2 := by
  unfold f_X11_bodyOf_48 at hf
  obtain ⟨v6, -, hf⟩ := ob hf
  obtain ⟨v7, ev7, hf⟩ := ob hf
  refine Le.of (t := (s.1, s.2)) rfl ((lm_X7_init ev7).tr ?_)
  exact Le.via (le_X11_bodyOf_61 hf) rfl
set_option maxRecDepth 20000 in
theorem zb_X11_bodyOf_48 {N : Nat} {r : Nat × AS} {E : EV} (hE : TG E (some (.ref r.1)) r.2)  {l0 : Nat} {t0 : Nat} {s : AS} (hf : f_X11_bodyOf_48 N l0 t0 s = some r) : Z E yX11_bodyOf cX11_bodyOf 2 (some (.object "PloughDepot$Plough")) 3 s 48 [(0, .ref l0)] [.ref t0] := by
  unfold f_X11_bodyOf_48 at hf
  refine z_dup dX11_bodyOf_48 rfl ?_
  refine z_aload_n 0 dX11_bodyOf_49 rfl rfl ?_
  refine z_gP (ci := 11) (k := 0) (C := RX11) (T := TX11) (N := 14) rfl inlX11 (by decide) mw_1_15 (fun _ _ _ _ h9 => h9) hf (by decide) rfl dX11_bodyOf_50  (fun v6 hf => ?_)
  refine z_bipush 45 45 dX11_bodyOf_53 (by decide) ?_
  refine z_sipush 200 200 dX11_bodyOf_55 (by decide) ?_
  obtain ⟨v7, ev7, hf⟩ := ob hf
  refine z_cI (As := [.ref v6, .int (45 : Int32), .int (200 : Int32)]) (rest := [.ref t0]) (zm_X7_init ev7).2 (Or.inr (tg_le hE (le_X11_bodyOf_61 hf))) mw_30_10 mw_30_11 mw_30_2 mw_30_12 rfl yk_X7_init (by decide) (by decide) rfl (Nat.le_of_ble_eq_true rfl) rfl dX11_bodyOf_58 ?_
  refine z_lv [] [] rfl ?_
  exact zb_X11_bodyOf_61 hE hf
set_option maxRecDepth 20000 in
theorem le_X11_bodyOf_78 {N : Nat} {r : Nat × AS}  {t0 : Nat} {s : AS} (hf : f_X11_bodyOf_78 N t0 s = some r) : Le s r.2 := by
  unfold f_X11_bodyOf_78 at hf
  cases hf
  exact Le.rf
set_option maxRecDepth 20000 in
theorem zb_X11_bodyOf_78 {N : Nat} {r : Nat × AS} {E : EV} (hE : TG E (some (.ref r.1)) r.2)  {t0 : Nat} {s : AS} (hf : f_X11_bodyOf_78 N t0 s = some r) : Z E yX11_bodyOf cX11_bodyOf 2 (some (.object "PloughDepot$Plough")) 3 s 78 [] [.ref t0] := by
  unfold f_X11_bodyOf_78 at hf
  cases hf
  exact z_areturn hE rfl (by first | exact Or.inl ⟨_, rfl⟩ | exact Or.inr ⟨_, rfl⟩) dX11_bodyOf_78
set_option maxRecDepth 20000 in
theorem le_X11_bodyOf_65 {N : Nat} {r : Nat × AS}  {l0 : Nat} {t0 : Nat} {s : AS} (hf : f_X11_bodyOf_65 N l0 t0 s = some r) : Le s r.2 := by
  unfold f_X11_bodyOf_65 at hf
  obtain ⟨v8, -, hf⟩ := ob hf
  obtain ⟨v9, ev9, hf⟩ := ob hf
  refine Le.of (t := (s.1, s.2)) rfl ((lm_X9_init ev9).tr ?_)
  exact Le.via (le_X11_bodyOf_78 hf) rfl
set_option maxRecDepth 20000 in
theorem zb_X11_bodyOf_65 {N : Nat} {r : Nat × AS} {E : EV} (hE : TG E (some (.ref r.1)) r.2)  {l0 : Nat} {t0 : Nat} {s : AS} (hf : f_X11_bodyOf_65 N l0 t0 s = some r) : Z E yX11_bodyOf cX11_bodyOf 2 (some (.object "PloughDepot$Plough")) 3 s 65 [(0, .ref l0)] [.ref t0] := by
  unfold f_X11_bodyOf_65 at hf
  refine z_dup dX11_bodyOf_65 rfl ?_
  refine z_aload_n 0 dX11_bodyOf_66 rfl rfl ?_
  refine z_gP (ci := 11) (k := 0) (C := RX11) (T := TX11) (N := 14) rfl inlX11 (by decide) mw_1_15 (fun _ _ _ _ h9 => h9) hf (by decide) rfl dX11_bodyOf_67  (fun v8 hf => ?_)
  refine z_bipush 20 20 dX11_bodyOf_70 (by decide) ?_
  refine z_sipush 400 400 dX11_bodyOf_72 (by decide) ?_
  obtain ⟨v9, ev9, hf⟩ := ob hf
  refine z_cI (As := [.ref v8, .int (20 : Int32), .int (400 : Int32)]) (rest := [.ref t0]) (zm_X9_init ev9).2 (Or.inr (tg_le hE (le_X11_bodyOf_78 hf))) mw_30_14 mw_30_15 mw_30_5 mw_30_16 rfl yk_X9_init (by decide) (by decide) rfl (Nat.le_of_ble_eq_true rfl) rfl dX11_bodyOf_75 ?_
  refine z_lv [] [] rfl ?_
  exact zb_X11_bodyOf_78 hE hf
set_option maxRecDepth 20000 in
theorem le_X11_bodyOf_95 {N : Nat} {r : Nat × AS}  {t0 : Nat} {s : AS} (hf : f_X11_bodyOf_95 N t0 s = some r) : Le s r.2 := by
  unfold f_X11_bodyOf_95 at hf
  cases hf
  exact Le.rf
set_option maxRecDepth 20000 in
theorem zb_X11_bodyOf_95 {N : Nat} {r : Nat × AS} {E : EV} (hE : TG E (some (.ref r.1)) r.2)  {t0 : Nat} {s : AS} (hf : f_X11_bodyOf_95 N t0 s = some r) : Z E yX11_bodyOf cX11_bodyOf 2 (some (.object "PloughDepot$Plough")) 3 s 95 [] [.ref t0] := by
  unfold f_X11_bodyOf_95 at hf
  cases hf
  exact z_areturn hE rfl (by first | exact Or.inl ⟨_, rfl⟩ | exact Or.inr ⟨_, rfl⟩) dX11_bodyOf_95
set_option maxRecDepth 20000 in
theorem le_X11_bodyOf_82 {N : Nat} {r : Nat × AS}  {l0 : Nat} {t0 : Nat} {s : AS} (hf : f_X11_bodyOf_82 N l0 t0 s = some r) : Le s r.2 := by
  unfold f_X11_bodyOf_82 at hf
  obtain ⟨v10, -, hf⟩ := ob hf
  obtain ⟨v11, ev11, hf⟩ := ob hf
  refine Le.of (t := (s.1, s.2)) rfl ((lm_X6_init ev11).tr ?_)
  exact Le.via (le_X11_bodyOf_95 hf) rfl
set_option maxRecDepth 20000 in
theorem zb_X11_bodyOf_82 {N : Nat} {r : Nat × AS} {E : EV} (hE : TG E (some (.ref r.1)) r.2)  {l0 : Nat} {t0 : Nat} {s : AS} (hf : f_X11_bodyOf_82 N l0 t0 s = some r) : Z E yX11_bodyOf cX11_bodyOf 2 (some (.object "PloughDepot$Plough")) 3 s 82 [(0, .ref l0)] [.ref t0] := by
  unfold f_X11_bodyOf_82 at hf
  refine z_dup dX11_bodyOf_82 rfl ?_
  refine z_aload_n 0 dX11_bodyOf_83 rfl rfl ?_
  refine z_gP (ci := 11) (k := 0) (C := RX11) (T := TX11) (N := 14) rfl inlX11 (by decide) mw_1_15 (fun _ _ _ _ h9 => h9) hf (by decide) rfl dX11_bodyOf_84  (fun v10 hf => ?_)
  refine z_bipush 50 50 dX11_bodyOf_87 (by decide) ?_
  refine z_sipush 200 200 dX11_bodyOf_89 (by decide) ?_
  obtain ⟨v11, ev11, hf⟩ := ob hf
  refine z_cI (As := [.ref v10, .int (50 : Int32), .int (200 : Int32)]) (rest := [.ref t0]) (zm_X6_init ev11).2 (Or.inr (tg_le hE (le_X11_bodyOf_95 hf))) mw_6_8 mw_6_9 mw_2_22 mw_6_10 rfl yk_X6_init (by decide) (by decide) rfl (Nat.le_of_ble_eq_true rfl) rfl dX11_bodyOf_92 ?_
  refine z_lv [] [] rfl ?_
  exact zb_X11_bodyOf_95 hE hf
set_option maxRecDepth 20000 in
theorem lm_X11_bodyOf {N : Nat} {s : AS} {l0 : Nat} {l1 : Int32} {r : Nat × AS} (hf : f_X11_bodyOf N l0 l1 s = some r) : Le s r.2 := by
  unfold f_X11_bodyOf at hf
  split at hf
  · skip
    split at hf
    · refine Le.of (t := (s.1, s.2)) rfl (le_nObj.tr (u := _) (t := nObj (s.1, s.2) 0) ?_)
      exact Le.via (le_X11_bodyOf_31 hf) rfl
    split at hf
    · refine Le.of (t := (s.1, s.2)) rfl (le_nObj.tr (u := _) (t := nObj (s.1, s.2) 7) ?_)
      exact Le.via (le_X11_bodyOf_48 hf) rfl
    split at hf
    · refine Le.of (t := (s.1, s.2)) rfl (le_nObj.tr (u := _) (t := nObj (s.1, s.2) 9) ?_)
      exact Le.via (le_X11_bodyOf_65 hf) rfl
    refine Le.of (t := (s.1, s.2)) rfl (le_nObj.tr (u := _) (t := nObj (s.1, s.2) 6) ?_)
    exact Le.via (le_X11_bodyOf_82 hf) rfl
  · cases hf
set_option maxRecDepth 20000 in
theorem zm_X11_bodyOf {N : Nat} {s : AS} {l0 : Nat} {l1 : Int32} {r : Nat × AS} (hf : f_X11_bodyOf N l0 l1 s = some r) : isO s.1 l0 11 ∧ ∀ (l : Launch) (G : GG), Mt l G yX11_bodyOf cX11_bodyOf 2 (some (.object "PloughDepot$Plough")) 3 [.ref l0, .int l1] s (some (.ref r.1)) r.2 := by
  have hf0 := hf
  unfold f_X11_bodyOf at hf
  split at hf
  · rename_i hO
    refine ⟨hO, fun l G => mt_of (Or.inl (by decide)) (Nat.le_of_ble_eq_true rfl) (lm_X11_bodyOf hf0) (fun E hE => ?_)⟩
    show Z E yX11_bodyOf cX11_bodyOf 2 (some (.object "PloughDepot$Plough")) 3 s 0 [(0, .ref l0), (1, .int l1)] []
    refine z_iload_n 1 dX11_bodyOf_0 rfl rfl ?_
    refine z_tabc (v := 1) 27 28 hf dX11_bodyOf_1 (by decide) (by decide) rfl (by decide) (fun hf => ?_) (fun n1 hf => ?_)
    · refine z_newo (ci := 0) (C := RX0) (T := TX0) (N := 3) rfl inlX0 tyX0 tyX0_ok mw_29_21 mw_29_22 mw_29_23 rfl df_0 (tg_le hE (le_X11_bodyOf_31 hf)) dX11_bodyOf_28 ?_
      refine z_lv [(0, .ref l0)] [0] rfl ?_
      exact zb_X11_bodyOf_31 hE hf
    refine z_tabc (v := 2) 44 45 hf dX11_bodyOf_1 (by decide) (by decide) rfl (by decide) (fun hf => ?_) (fun n2 hf => ?_)
    · refine z_newo (ci := 7) (C := RX7) (T := TX7) (N := 3) rfl inlX7 tyX7 tyX7_ok mw_30_0 mw_30_1 mw_30_2 rfl df_7 (tg_le hE (le_X11_bodyOf_48 hf)) dX11_bodyOf_45 ?_
      refine z_lv [(0, .ref l0)] [0] rfl ?_
      exact zb_X11_bodyOf_48 hE hf
    refine z_tabc (v := 3) 61 62 hf dX11_bodyOf_1 (by decide) (by decide) rfl (by decide) (fun hf => ?_) (fun n3 hf => ?_)
    · refine z_newo (ci := 9) (C := RX9) (T := TX9) (N := 3) rfl inlX9 tyX9 tyX9_ok mw_30_3 mw_30_4 mw_30_5 rfl df_9 (tg_le hE (le_X11_bodyOf_65 hf)) dX11_bodyOf_62 ?_
      refine z_lv [(0, .ref l0)] [0] rfl ?_
      exact zb_X11_bodyOf_65 hE hf
    refine z_tabd 79 dX11_bodyOf_1 (by have qn1 := tab_out 1 (by decide) n1; have qn2 := tab_out 2 (by decide) n2; have qn3 := tab_out 3 (by decide) n3; omega) (by decide) ?_
    refine z_newo (ci := 6) (C := RX6) (T := TX6) (N := 3) rfl inlX6 tyX6 tyX6_ok mw_2_9 mw_2_21 mw_2_22 rfl df_6 (tg_le hE (le_X11_bodyOf_82 hf)) dX11_bodyOf_79 ?_
    refine z_lv [(0, .ref l0)] [0] rfl ?_
    exact zb_X11_bodyOf_82 hE hf
  · cases hf
set_option maxRecDepth 20000 in
theorem zb_X1_isMissing_18 {N : Nat} {sh : Sh} {d : Dt} {r : Int32} {E : EV} (hE : TG E (some (.int r)) (sh, d))  {t0 : Int32} (hf : f_X1_isMissing_18 N sh t0 d = some r) : Z E yX1_isMissing cX1_isMissing 2 (some .boolean) 2 (sh, d) 18 [] [.int t0] := by
  unfold f_X1_isMissing_18 at hf
  obtain ⟨v3, ev3, hg⟩ := ob hf
  obtain ⟨rfl, hbv3⟩ := o_bool_spec ev3
  cases hg
  exact z_zreturn hE rfl hbv3 dX1_isMissing_18
set_option maxRecDepth 20000 in
theorem zm_X1_isMissing {N : Nat} {sh : Sh} {d : Dt} {l0 : Nat} {l1 : Int32} {r : Int32} (hf : f_X1_isMissing N sh l0 l1 d = some r) : isO sh l0 1 ∧ ∀ (l : Launch) (G : GG), Mt l G yX1_isMissing cX1_isMissing 2 (some .boolean) 2 [.ref l0, .int l1] (sh, d) (some (.int r)) (sh, d) := by
  have hf0 := hf
  unfold f_X1_isMissing at hf
  split at hf
  · rename_i hO
    refine ⟨hO, fun l G => mt_of (Or.inl (by decide)) (Nat.le_of_ble_eq_true rfl) Le.rf (fun E hE => ?_)⟩
    show Z E yX1_isMissing cX1_isMissing 2 (some .boolean) 2 (sh, d) 0 [(0, .ref l0), (1, .int l1)] []
    refine z_aload_n 0 dX1_isMissing_0 rfl rfl ?_
    refine z_gP (ci := 1) (k := 2) (C := RX1) (T := TX1) (N := 8) rfl inlX1 (by decide) mw_3_15 (fun _ _ _ _ h9 => h9) hf (by decide) rfl dX1_isMissing_1  (fun v1 hf => ?_)
    refine z_iload_n 1 dX1_isMissing_4 rfl rfl ?_
    refine z_iconst 2 2 dX1_isMissing_5 (by decide) ?_
    obtain ⟨v2, ev2, hf⟩ := ob hf
    refine z_cVi (ci := 8) (T := TX8) (N := 2) (As := [.int l1, .int (2 : Int32)]) (rest := []) (zm_X8_get ev2).2 (zm_X8_get ev2).1 (by decide) rfl (Or.inl rfl) mw_10_10 mw_10_11 mw_10_12 mw_3_13 mw_10_13 yk_X8_get (by decide) (by decide) rfl (Nat.le_of_ble_eq_true rfl) rfl dX1_isMissing_6 ?_
    refine z_iconst (-1) (-1) dX1_isMissing_9 (by decide) ?_
    refine z_icmp_ne 17 hf dX1_isMissing_10 (by decide) (fun hf => ?_) (fun hf => ?_)
    · refine z_iconst 0 0 dX1_isMissing_17 (by decide) ?_
      refine z_lv [] [] rfl ?_
      exact zb_X1_isMissing_18 hE hf
    · refine z_iconst 1 1 dX1_isMissing_13 (by decide) ?_
      refine z_goto 18 dX1_isMissing_14 (by decide) ?_
      refine z_lv [] [] rfl ?_
      exact zb_X1_isMissing_18 hE hf
  · cases hf
set_option maxRecDepth 20000 in
theorem zb_X1_reaches_28 {N : Nat} {sh : Sh} {d : Dt} {r : Int32} {E : EV} (hE : TG E (some (.int r)) (sh, d))  {t0 : Int32} (hf : f_X1_reaches_28 N sh t0 d = some r) : Z E yX1_reaches cX1_reaches 4 (some .boolean) 2 (sh, d) 28 [] [.int t0] := by
  unfold f_X1_reaches_28 at hf
  obtain ⟨v3, ev3, hg⟩ := ob hf
  obtain ⟨rfl, hbv3⟩ := o_bool_spec ev3
  cases hg
  exact z_zreturn hE rfl hbv3 dX1_reaches_28
set_option maxRecDepth 20000 in
theorem zb_X1_reaches_27 {N : Nat} {sh : Sh} {d : Dt} {r : Int32} {E : EV} (hE : TG E (some (.int r)) (sh, d))   (hf : f_X1_reaches_27 N sh  d = some r) : Z E yX1_reaches cX1_reaches 4 (some .boolean) 2 (sh, d) 27 [] [] := by
  unfold f_X1_reaches_27 at hf
  refine z_iconst 0 0 dX1_reaches_27 (by decide) ?_
  exact zb_X1_reaches_28 hE hf
set_option maxRecDepth 20000 in
theorem zm_X1_reaches {N : Nat} {sh : Sh} {d : Dt} {l0 : Nat} {l1 : Int32} {l2 : Int32} {l3 : Int32} {r : Int32} (hf : f_X1_reaches N sh l0 l1 l2 l3 d = some r) : isO sh l0 1 ∧ ∀ (l : Launch) (G : GG), Mt l G yX1_reaches cX1_reaches 4 (some .boolean) 2 [.ref l0, .int l1, .int l2, .int l3] (sh, d) (some (.int r)) (sh, d) := by
  have hf0 := hf
  unfold f_X1_reaches at hf
  split at hf
  · rename_i hO
    refine ⟨hO, fun l G => mt_of (Or.inl (by decide)) (Nat.le_of_ble_eq_true rfl) Le.rf (fun E hE => ?_)⟩
    show Z E yX1_reaches cX1_reaches 4 (some .boolean) 2 (sh, d) 0 [(0, .ref l0), (1, .int l1), (2, .int l2), (3, .int l3)] []
    refine z_iload_n 2 dX1_reaches_0 rfl rfl ?_
    refine z_if_lt 27 hf dX1_reaches_1 (by decide) (fun hf => ?_) (fun hf => ?_)
    · refine z_lv [] [] rfl ?_
      exact zb_X1_reaches_27 hE hf
    · refine z_iload_n 3 dX1_reaches_4 rfl rfl ?_
      refine z_if_lt 27 hf dX1_reaches_5 (by decide) (fun hf => ?_) (fun hf => ?_)
      · refine z_lv [] [] rfl ?_
        exact zb_X1_reaches_27 hE hf
      · refine z_iload_n 2 dX1_reaches_8 rfl rfl ?_
        refine z_aload_n 0 dX1_reaches_9 rfl rfl ?_
        refine z_gP (ci := 1) (k := 2) (C := RX1) (T := TX1) (N := 8) rfl inlX1 (by decide) mw_3_15 (fun _ _ _ _ h9 => h9) hf (by decide) rfl dX1_reaches_10  (fun v1 hf => ?_)
        refine z_iload_n 1 dX1_reaches_13 rfl rfl ?_
        refine z_iconst 2 2 dX1_reaches_14 (by decide) ?_
        obtain ⟨v2, ev2, hf⟩ := ob hf
        refine z_cVi (ci := 8) (T := TX8) (N := 2) (As := [.int l1, .int (2 : Int32)]) (rest := [.int l2]) (zm_X8_get ev2).2 (zm_X8_get ev2).1 (by decide) rfl (Or.inl rfl) mw_10_10 mw_10_11 mw_10_12 mw_3_13 mw_10_13 yk_X8_get (by decide) (by decide) rfl (Nat.le_of_ble_eq_true rfl) rfl dX1_reaches_15 ?_
        refine z_iload_n 3 dX1_reaches_18 rfl rfl ?_
        refine z_isub dX1_reaches_19 ?_
        refine z_icmp_gt 27 hf dX1_reaches_20 (by decide) (fun hf => ?_) (fun hf => ?_)
        · refine z_lv [] [] rfl ?_
          exact zb_X1_reaches_27 hE hf
        · refine z_iconst 1 1 dX1_reaches_23 (by decide) ?_
          refine z_goto 28 dX1_reaches_24 (by decide) ?_
          refine z_lv [] [] rfl ?_
          exact zb_X1_reaches_28 hE hf
  · cases hf
set_option maxRecDepth 20000 in
theorem zb_X1_whyUncopied_16 {N : Nat} {sh : Sh} {d : Dt} {r : Int32} {E : EV} (hE : TG E (some (.int r)) (sh, d))   (hf : f_X1_whyUncopied_16 N sh  d = some r) : Z E yX1_whyUncopied cX1_whyUncopied 6 (some .int) 3 (sh, d) 16 [] [] := by
  unfold f_X1_whyUncopied_16 at hf
  refine z_bipush (-4) (-4) dX1_whyUncopied_16 (by decide) ?_
  cases hf
  exact z_ireturn hE rfl dX1_whyUncopied_18
set_option maxRecDepth 20000 in
theorem zb_X1_whyUncopied_48 {N : Nat} {sh : Sh} {d : Dt} {r : Int32} {E : EV} (hE : TG E (some (.int r)) (sh, d))  {t0 : Int32} (hf : f_X1_whyUncopied_48 N sh t0 d = some r) : Z E yX1_whyUncopied cX1_whyUncopied 6 (some .int) 3 (sh, d) 48 [] [.int t0] := by
  unfold f_X1_whyUncopied_48 at hf
  cases hf
  exact z_ireturn hE rfl dX1_whyUncopied_48
set_option maxRecDepth 20000 in
theorem zb_X1_whyUncopied_46 {N : Nat} {sh : Sh} {d : Dt} {r : Int32} {E : EV} (hE : TG E (some (.int r)) (sh, d))   (hf : f_X1_whyUncopied_46 N sh  d = some r) : Z E yX1_whyUncopied cX1_whyUncopied 6 (some .int) 3 (sh, d) 46 [] [] := by
  unfold f_X1_whyUncopied_46 at hf
  refine z_bipush (-5) (-5) dX1_whyUncopied_46 (by decide) ?_
  exact zb_X1_whyUncopied_48 hE hf
set_option maxRecDepth 20000 in
theorem zm_X1_whyUncopied {N : Nat} {sh : Sh} {d : Dt} {l0 : Nat} {l1 : Int32} {l2 : Int32} {l3 : Int32} {l4 : Int32} {l5 : Int32} {r : Int32} (hf : f_X1_whyUncopied N sh l0 l1 l2 l3 l4 l5 d = some r) : isO sh l0 1 ∧ ∀ (l : Launch) (G : GG), Mt l G yX1_whyUncopied cX1_whyUncopied 6 (some .int) 3 [.ref l0, .int l1, .int l2, .int l3, .int l4, .int l5] (sh, d) (some (.int r)) (sh, d) := by
  have hf0 := hf
  unfold f_X1_whyUncopied at hf
  split at hf
  · rename_i hO
    refine ⟨hO, fun l G => mt_of (Or.inl (by decide)) (Nat.le_of_ble_eq_true rfl) Le.rf (fun E hE => ?_)⟩
    show Z E yX1_whyUncopied cX1_whyUncopied 6 (some .int) 3 (sh, d) 0 [(0, .ref l0), (1, .int l1), (2, .int l2), (3, .int l3), (4, .int l4), (5, .int l5)] []
    refine z_aload_n 0 dX1_whyUncopied_0 rfl rfl ?_
    refine z_iload_n 1 dX1_whyUncopied_1 rfl rfl ?_
    obtain ⟨v1, ev1, hf⟩ := ob hf
    refine z_cVi (ci := 1) (T := TX1) (N := 8) (As := [.int l1]) (rest := []) (zm_X1_isMissing ev1).2 (zm_X1_isMissing ev1).1 (by decide) rfl (Or.inl rfl) mw_22_22 mw_21_18 mw_21_19 mw_1_18 mw_21_20 yk_X1_isMissing (by decide) (by decide) rfl (Nat.le_of_ble_eq_true rfl) rfl dX1_whyUncopied_2 ?_
    refine z_if_ne 16 hf dX1_whyUncopied_5 (by decide) (fun hf => ?_) (fun hf => ?_)
    · refine z_lv [] [] rfl ?_
      exact zb_X1_whyUncopied_16 hE hf
    · refine z_aload_n 0 dX1_whyUncopied_8 rfl rfl ?_
      refine z_iload_n 3 dX1_whyUncopied_9 rfl rfl ?_
      obtain ⟨v2, ev2, hf⟩ := ob hf
      refine z_cVi (ci := 1) (T := TX1) (N := 8) (As := [.int l3]) (rest := []) (zm_X1_isMissing ev2).2 (zm_X1_isMissing ev2).1 (by decide) rfl (Or.inl rfl) mw_22_22 mw_21_18 mw_21_19 mw_1_18 mw_21_20 yk_X1_isMissing (by decide) (by decide) rfl (Nat.le_of_ble_eq_true rfl) rfl dX1_whyUncopied_10 ?_
      refine z_if_eq 19 hf dX1_whyUncopied_13 (by decide) (fun hf => ?_) (fun hf => ?_)
      · refine z_aload_n 0 dX1_whyUncopied_19 rfl rfl ?_
        refine z_iload_n 1 dX1_whyUncopied_20 rfl rfl ?_
        refine z_iload_n 2 dX1_whyUncopied_21 rfl rfl ?_
        refine z_iload 5 dX1_whyUncopied_22 rfl ?_
        obtain ⟨v3, ev3, hf⟩ := ob hf
        refine z_cVi (ci := 1) (T := TX1) (N := 8) (As := [.int l1, .int l2, .int l5]) (rest := []) (zm_X1_reaches ev3).2 (zm_X1_reaches ev3).1 (by decide) rfl (Or.inl rfl) mw_25_22 mw_25_23 mw_26_0 mw_1_18 mw_26_1 yk_X1_reaches (by decide) (by decide) rfl (Nat.le_of_ble_eq_true rfl) rfl dX1_whyUncopied_24 ?_
        refine z_if_eq 46 hf dX1_whyUncopied_27 (by decide) (fun hf => ?_) (fun hf => ?_)
        · refine z_lv [] [] rfl ?_
          exact zb_X1_whyUncopied_46 hE hf
        · refine z_aload_n 0 dX1_whyUncopied_30 rfl rfl ?_
          refine z_iload_n 3 dX1_whyUncopied_31 rfl rfl ?_
          refine z_iload 4 dX1_whyUncopied_32 rfl ?_
          refine z_iload 5 dX1_whyUncopied_34 rfl ?_
          obtain ⟨v4, ev4, hf⟩ := ob hf
          refine z_cVi (ci := 1) (T := TX1) (N := 8) (As := [.int l3, .int l4, .int l5]) (rest := []) (zm_X1_reaches ev4).2 (zm_X1_reaches ev4).1 (by decide) rfl (Or.inl rfl) mw_25_22 mw_25_23 mw_26_0 mw_1_18 mw_26_1 yk_X1_reaches (by decide) (by decide) rfl (Nat.le_of_ble_eq_true rfl) rfl dX1_whyUncopied_36 ?_
          refine z_if_eq 46 hf dX1_whyUncopied_39 (by decide) (fun hf => ?_) (fun hf => ?_)
          · refine z_lv [] [] rfl ?_
            exact zb_X1_whyUncopied_46 hE hf
          · refine z_iconst 0 0 dX1_whyUncopied_42 (by decide) ?_
            refine z_goto 48 dX1_whyUncopied_43 (by decide) ?_
            refine z_lv [] [] rfl ?_
            exact zb_X1_whyUncopied_48 hE hf
      · refine z_lv [] [] rfl ?_
        exact zb_X1_whyUncopied_16 hE hf
  · cases hf
set_option maxRecDepth 20000 in
theorem zm_X1_copyReadings {N : Nat} {sh : Sh} {d : Dt} {l0 : Nat} {l1 : Int32} {l2 : Int32} {l3 : Int32} {l4 : Int32} {l5 : Int32} {r : Dt} (hf : f_X1_copyReadings N sh l0 l1 l2 l3 l4 l5 d = some r) : isO sh l0 1 ∧ ∀ (l : Launch) (G : GG), Mt l G yX1_copyReadings cX1_copyReadings 6 none 1 [.ref l0, .int l1, .int l2, .int l3, .int l4, .int l5] (sh, d) none (sh, r) := by
  have hf0 := hf
  unfold f_X1_copyReadings at hf
  split at hf
  · rename_i hO
    refine ⟨hO, fun l G => mt_of (Or.inl (by decide)) (Nat.le_of_ble_eq_true rfl) Le.rf (fun E hE => ?_)⟩
    show Z E yX1_copyReadings cX1_copyReadings 6 none 1 (sh, d) 0 [(0, .ref l0), (1, .int l1), (2, .int l2), (3, .int l3), (4, .int l4), (5, .int l5)] []
    refine z_aload_n 0 dX1_copyReadings_0 rfl rfl ?_
    refine z_gQ (ci := 1) (k := 7) (C := RX1) (T := TX1) (N := 8) rfl inlX1 (by decide) mw_3_21 (fun _ _ _ _ h9 => h9) hf (by decide) rfl dX1_copyReadings_1  (fun v1 hf => ?_)
    refine z_iload_n 1 dX1_copyReadings_4 rfl rfl ?_
    refine z_sipush 200 200 dX1_copyReadings_5 (by decide) ?_
    refine z_imul dX1_copyReadings_8 ?_
    refine z_iload_n 2 dX1_copyReadings_9 rfl rfl ?_
    refine z_iadd dX1_copyReadings_10 ?_
    refine z_aload_n 0 dX1_copyReadings_11 rfl rfl ?_
    refine z_gQ (ci := 1) (k := 7) (C := RX1) (T := TX1) (N := 8) rfl inlX1 (by decide) mw_3_21 (fun _ _ _ _ h9 => h9) hf (by decide) rfl dX1_copyReadings_12  (fun v2 hf => ?_)
    refine z_iload_n 3 dX1_copyReadings_15 rfl rfl ?_
    refine z_sipush 200 200 dX1_copyReadings_16 (by decide) ?_
    refine z_imul dX1_copyReadings_19 ?_
    refine z_iload 4 dX1_copyReadings_20 rfl ?_
    refine z_iadd dX1_copyReadings_22 ?_
    refine z_iload 5 dX1_copyReadings_23 rfl ?_
    refine z_cpy hf mw_8_15 mw_8_16 mw_8_17 mw_8_18 (by decide) (Nat.le_of_ble_eq_true rfl) dX1_copyReadings_25 (fun d3 hf => ?_)
    cases hf
    exact z_return hE rfl dX1_copyReadings_28
  · cases hf
set_option maxRecDepth 20000 in
theorem le_X11_copies_84 {N : Nat} {r : Int32 × AS}  {l0 : Nat} {l4 : Int32} {s : AS} (hf : f_X11_copies_84 N l0 l4 s = some r) : Le s r.2 := by
  unfold f_X11_copies_84 at hf
  obtain ⟨v7, -, hf⟩ := ob hf
  cases hf
  exact Le.rf
set_option maxRecDepth 20000 in
theorem zb_X11_copies_84 {N : Nat} {r : Int32 × AS} {E : EV} (hE : TG E (some (.int r.1)) r.2)  {l0 : Nat} {l4 : Int32} {s : AS} (hf : f_X11_copies_84 N l0 l4 s = some r) : Z E yX11_copies cX11_copies 7 (some .int) 6 s 84 [(0, .ref l0), (4, .int l4)] [] := by
  unfold f_X11_copies_84 at hf
  refine z_aload_n 0 dX11_copies_84 rfl rfl ?_
  refine z_iload 1 dX11_copies_85 rfl ?_
  obtain ⟨v7, ev7, hf⟩ := ob hf
  refine z_cVi (ci := 11) (T := TX11) (N := 14) (As := [.int l4]) (rest := []) (zm_X11_answer ev7).2 (zm_X11_answer ev7).1 (by decide) rfl (Or.inl rfl) mw_11_2 mw_11_3 mw_11_4 mw_1_2 mw_11_5 yk_X11_answer (by decide) (by decide) rfl (Nat.le_of_ble_eq_true rfl) rfl dX11_copies_87 ?_
  cases hf
  exact z_ireturn hE rfl dX11_copies_90
set_option maxRecDepth 20000 in
theorem le_X11_copies_61 {N : Nat} {k6 : Nat → Int32 → Int32 → Int32 → Int32 → Int32 → AS → Option (Int32 × AS)} {r : Int32 × AS} (hk6 : ∀ (l0 : Nat) (l1 : Int32) (l2 : Int32) (l3 : Int32) (l4 : Int32) (l5 : Int32) (s : AS), k6 l0 l1 l2 l3 l4 l5 s = some r → Le s r.2) {l0 : Nat} {l1 : Int32} {l2 : Int32} {l3 : Int32} {l4 : Int32} {l5 : Int32} {s : AS} (hf : f_X11_copies_61 N k6 l0 l1 l2 l3 l4 l5 s = some r) : Le s r.2 := by
  unfold f_X11_copies_61 at hf
  obtain ⟨v8, -, hf⟩ := ob hf
  obtain ⟨v9, -, hf⟩ := ob hf
  exact Le.via (hk6 _ _ _ _ _ _ _ hf) rfl
set_option maxRecDepth 20000 in
theorem zb_X11_copies_61 {N : Nat} {k6 : Nat → Int32 → Int32 → Int32 → Int32 → Int32 → AS → Option (Int32 × AS)} {r : Int32 × AS} {E : EV} (hE : TG E (some (.int r.1)) r.2) (hk6 : ∀ (l0 : Nat) (l1 : Int32) (l2 : Int32) (l3 : Int32) (l4 : Int32) (l5 : Int32) (s : AS), k6 l0 l1 l2 l3 l4 l5 s = some r → Z E yX11_copies cX11_copies 7 (some .int) 6 s 6 [(0, .ref l0), (1, .int l1), (2, .int l2), (3, .int l3), (4, .int l4), (5, .int l5)] []) {l0 : Nat} {l1 : Int32} {l2 : Int32} {l3 : Int32} {l4 : Int32} {l5 : Int32} {s : AS} (hf : f_X11_copies_61 N k6 l0 l1 l2 l3 l4 l5 s = some r) : Z E yX11_copies cX11_copies 7 (some .int) 6 s 61 [(0, .ref l0), (1, .int l1), (2, .int l2), (3, .int l3), (4, .int l4), (5, .int l5)] [] := by
  unfold f_X11_copies_61 at hf
  refine z_aload_n 0 dX11_copies_61 rfl rfl ?_
  refine z_gP (ci := 11) (k := 1) (C := RX11) (T := TX11) (N := 14) rfl inlX11 (by decide) mw_1_19 (fun _ _ _ _ h9 => h9) hf (by decide) rfl dX11_copies_62  (fun v8 hf => ?_)
  refine z_iload 5 dX11_copies_65 rfl ?_
  refine z_iload_n 1 dX11_copies_67 rfl rfl ?_
  refine z_iload 5 dX11_copies_68 rfl ?_
  refine z_iload_n 2 dX11_copies_70 rfl rfl ?_
  refine z_iload_n 3 dX11_copies_71 rfl rfl ?_
  obtain ⟨v9, ev9, hf⟩ := ob hf
  refine z_cVv (ci := 1) (T := TX1) (N := 8) (As := [.int l5, .int l1, .int l5, .int l2, .int l3]) (rest := []) (zm_X1_copyReadings ev9).2 (zm_X1_copyReadings ev9).1 (by decide) rfl (Or.inl rfl) mw_26_2 mw_26_3 mw_26_4 mw_1_18 mw_26_5 yk_X1_copyReadings (by decide) (by decide) rfl (Nat.le_of_ble_eq_true rfl) rfl dX11_copies_72 ?_
  refine z_iinc [(4, .int (l4 + 1)), (0, .ref l0), (1, .int l1), (2, .int l2), (3, .int l3), (5, .int l5)] 4 (l4 + 1) dX11_copies_75 rfl rfl (by decide) rfl ?_
  refine z_iinc [(5, .int (l5 + 1)), (4, .int (l4 + 1)), (0, .ref l0), (1, .int l1), (2, .int l2), (3, .int l3)] 5 (l5 + 1) dX11_copies_78 rfl rfl (by decide) rfl ?_
  refine z_goto 6 dX11_copies_81 (by decide) ?_
  refine z_lv [(0, .ref l0), (1, .int l1), (2, .int l2), (3, .int l3), (4, .int (l4 + 1)), (5, .int (l5 + 1))] [2, 3, 4, 5, 1, 0] rfl ?_
  exact hk6 _ _ _ _ _ _ _ hf
set_option maxRecDepth 20000 in
theorem le_X11_copies_42 {N : Nat} {r : Int32 × AS}  {l0 : Nat} {l4 : Int32} {l6 : Int32} {s : AS} (hf : f_X11_copies_42 N l0 l4 l6 s = some r) : Le s r.2 := by
  unfold f_X11_copies_42 at hf
  obtain ⟨v10, -, hf⟩ := ob hf
  cases hf
  exact Le.rf
set_option maxRecDepth 20000 in
theorem zb_X11_copies_42 {N : Nat} {r : Int32 × AS} {E : EV} (hE : TG E (some (.int r.1)) r.2)  {l0 : Nat} {l4 : Int32} {l6 : Int32} {s : AS} (hf : f_X11_copies_42 N l0 l4 l6 s = some r) : Z E yX11_copies cX11_copies 7 (some .int) 6 s 42 [(0, .ref l0), (4, .int l4), (6, .int l6)] [] := by
  unfold f_X11_copies_42 at hf
  refine z_aload_n 0 dX11_copies_42 rfl rfl ?_
  refine z_iload 2 dX11_copies_43 rfl ?_
  obtain ⟨v10, ev10, hf⟩ := ob hf
  refine z_cVi (ci := 11) (T := TX11) (N := 14) (As := [.int l6]) (rest := []) (zm_X11_refuse ev10).2 (zm_X11_refuse ev10).1 (by decide) rfl (Or.inl rfl) mw_7_22 mw_7_23 mw_8_0 mw_1_2 mw_8_1 yk_X11_refuse (by decide) (by decide) rfl (Nat.le_of_ble_eq_true rfl) rfl dX11_copies_45 ?_
  refine z_pop dX11_copies_48 rfl ?_
  refine z_iload 1 dX11_copies_49 rfl ?_
  cases hf
  exact z_ireturn hE rfl dX11_copies_51
set_option maxRecDepth 20000 in
theorem lg_X11_copies_6 {N : Nat} {r : Int32 × AS} {k6 : Nat → Int32 → Int32 → Int32 → Int32 → Int32 → AS → Option (Int32 × AS)}  (hk6 : ∀ (l0 : Nat) (l1 : Int32) (l2 : Int32) (l3 : Int32) (l4 : Int32) (l5 : Int32) (s : AS), k6 l0 l1 l2 l3 l4 l5 s = some r → Le s r.2) {l0 : Nat} {l1 : Int32} {l2 : Int32} {l3 : Int32} {l4 : Int32} {l5 : Int32} {s : AS} (hf : g_X11_copies_6 N k6 l0 l1 l2 l3 l4 l5 s = some r) : Le s r.2 := by
  unfold g_X11_copies_6 at hf
  obtain ⟨v1, -, hf⟩ := ob hf
  obtain ⟨v2, -, hf⟩ := ob hf
  obtain ⟨v3, -, hf⟩ := ob hf
  split at hf
  · exact Le.via (le_X11_copies_84 hf) rfl
  · obtain ⟨v4, -, hf⟩ := ob hf
    obtain ⟨v5, -, hf⟩ := ob hf
    split at hf
    · split at hf
      · exact Le.via (le_X11_copies_61 hk6 hf) rfl
      · obtain ⟨v6, ev6, hf⟩ := ob hf
        refine Le.of (t := (s.1, s.2)) rfl ((lm_X11_change ev6).tr ?_)
        exact Le.via (le_X11_copies_61 hk6 hf) rfl
    · exact Le.via (le_X11_copies_42 hf) rfl
set_option maxRecDepth 20000 in
theorem le_X11_copies_6 {N : Nat} {r : Int32 × AS}  : ∀ (n : Nat) (l0 : Nat) (l1 : Int32) (l2 : Int32) (l3 : Int32) (l4 : Int32) (l5 : Int32) (s : AS), f_X11_copies_6 N n l0 l1 l2 l3 l4 l5 s = some r → Le s r.2 := by
  intro n
  induction n with
  | zero => intro l0 l1 l2 l3 l4 l5 s hf; cases hf
  | succ n ih => intro l0 l1 l2 l3 l4 l5 s hf; exact lg_X11_copies_6 ih hf
set_option maxRecDepth 20000 in
theorem zg_X11_copies_6 {N : Nat} {r : Int32 × AS} {k6 : Nat → Int32 → Int32 → Int32 → Int32 → Int32 → AS → Option (Int32 × AS)} {E : EV} (hE : TG E (some (.int r.1)) r.2)  (hk6 : ∀ (l0 : Nat) (l1 : Int32) (l2 : Int32) (l3 : Int32) (l4 : Int32) (l5 : Int32) (s : AS), k6 l0 l1 l2 l3 l4 l5 s = some r → Z E yX11_copies cX11_copies 7 (some .int) 6 s 6 [(0, .ref l0), (1, .int l1), (2, .int l2), (3, .int l3), (4, .int l4), (5, .int l5)] []) {l0 : Nat} {l1 : Int32} {l2 : Int32} {l3 : Int32} {l4 : Int32} {l5 : Int32} {s : AS} (hf : g_X11_copies_6 N k6 l0 l1 l2 l3 l4 l5 s = some r) : Z E yX11_copies cX11_copies 7 (some .int) 6 s 6 [(0, .ref l0), (1, .int l1), (2, .int l2), (3, .int l3), (4, .int l4), (5, .int l5)] [] := by
  unfold g_X11_copies_6 at hf
  refine z_iload 5 dX11_copies_6 rfl ?_
  refine z_aload_n 0 dX11_copies_8 rfl rfl ?_
  refine z_gP (ci := 11) (k := 1) (C := RX11) (T := TX11) (N := 14) rfl inlX11 (by decide) mw_1_19 (fun _ _ _ _ h9 => h9) hf (by decide) rfl dX11_copies_9  (fun v1 hf => ?_)
  refine z_gP (ci := 1) (k := 2) (C := RX1) (T := TX1) (N := 8) rfl inlX1 (by decide) mw_19_21 (fun _ _ _ _ h9 => h9) hf (by decide) rfl dX11_copies_12  (fun v2 hf => ?_)
  refine z_gI (ci := 8) (k := 1) (C := RX8) (T := TX8) (N := 2) rfl inlX8 (by decide) mw_12_13 (fun _ _ _ _ h9 => h9) hf (by decide) rfl dX11_copies_15  (fun v3 hf => ?_)
  refine z_icmp_ge 84 hf dX11_copies_18 (by decide) (fun hf => ?_) (fun hf => ?_)
  · refine z_lv [(0, .ref l0), (4, .int l4)] [0, 4] rfl ?_
    exact zb_X11_copies_84 hE hf
  · refine z_aload_n 0 dX11_copies_21 rfl rfl ?_
    refine z_gP (ci := 11) (k := 1) (C := RX11) (T := TX11) (N := 14) rfl inlX11 (by decide) mw_1_19 (fun _ _ _ _ h9 => h9) hf (by decide) rfl dX11_copies_22  (fun v4 hf => ?_)
    refine z_iload 5 dX11_copies_25 rfl ?_
    refine z_iload_n 1 dX11_copies_27 rfl rfl ?_
    refine z_iload 5 dX11_copies_28 rfl ?_
    refine z_iload_n 2 dX11_copies_30 rfl rfl ?_
    refine z_iload_n 3 dX11_copies_31 rfl rfl ?_
    obtain ⟨v5, ev5, hf⟩ := ob hf
    refine z_cVi (ci := 1) (T := TX1) (N := 8) (As := [.int l5, .int l1, .int l5, .int l2, .int l3]) (rest := []) (zm_X1_whyUncopied ev5).2 (zm_X1_whyUncopied ev5).1 (by decide) rfl (Or.inl rfl) mw_25_18 mw_25_19 mw_25_20 mw_1_18 mw_25_21 yk_X1_whyUncopied (by decide) (by decide) rfl (Nat.le_of_ble_eq_true rfl) rfl dX11_copies_32 ?_
    refine z_istore [(6, .int v5), (0, .ref l0), (1, .int l1), (2, .int l2), (3, .int l3), (4, .int l4), (5, .int l5)] dX11_copies_35 (by decide) rfl ?_
    refine z_iload 0 dX11_copies_37 rfl ?_
    refine z_if_eq 52 hf dX11_copies_39 (by decide) (fun hf => ?_) (fun hf => ?_)
    · refine z_iload 5 dX11_copies_52 rfl ?_
      refine z_if_ne 61 hf dX11_copies_54 (by decide) (fun hf => ?_) (fun hf => ?_)
      · refine z_lv [(0, .ref l0), (1, .int l1), (2, .int l2), (3, .int l3), (4, .int l4), (5, .int l5)] [1, 2, 3, 4, 5, 6] rfl ?_
        exact zb_X11_copies_61 hE hk6 hf
      · refine z_aload_n 1 dX11_copies_57 rfl rfl ?_
        obtain ⟨v6, ev6, hf⟩ := ob hf
        refine z_cVv (ci := 11) (T := TX11) (N := 14) (As := []) (rest := []) (zm_X11_change ev6).2 (zm_X11_change ev6).1 (by decide) rfl (Or.inr (tg_le hE (le_X11_copies_61 hf))) mw_8_7 mw_8_8 mw_8_9 mw_1_2 mw_8_10 yk_X11_change (by decide) (by decide) rfl (Nat.le_of_ble_eq_true rfl) rfl dX11_copies_58 ?_
        refine z_lv [(0, .ref l0), (1, .int l1), (2, .int l2), (3, .int l3), (4, .int l4), (5, .int l5)] [1, 2, 3, 4, 5, 6] rfl ?_
        exact zb_X11_copies_61 hE hk6 hf
    · refine z_lv [(0, .ref l0), (4, .int l4), (6, .int v5)] [1, 5, 0] rfl ?_
      exact zb_X11_copies_42 hE hf
set_option maxRecDepth 20000 in
theorem zb_X11_copies_6 {N : Nat} {r : Int32 × AS} {E : EV} (hE : TG E (some (.int r.1)) r.2)  : ∀ (n : Nat) (l0 : Nat) (l1 : Int32) (l2 : Int32) (l3 : Int32) (l4 : Int32) (l5 : Int32) (s : AS), f_X11_copies_6 N n l0 l1 l2 l3 l4 l5 s = some r → Z E yX11_copies cX11_copies 7 (some .int) 6 s 6 [(0, .ref l0), (1, .int l1), (2, .int l2), (3, .int l3), (4, .int l4), (5, .int l5)] [] := by
  intro n
  induction n with
  | zero => intro l0 l1 l2 l3 l4 l5 s hf; cases hf
  | succ n ih => intro l0 l1 l2 l3 l4 l5 s hf; exact zg_X11_copies_6 hE ih hf
set_option maxRecDepth 20000 in
theorem lm_X11_copies {N : Nat} {s : AS} {l0 : Nat} {l1 : Int32} {l2 : Int32} {l3 : Int32} {r : Int32 × AS} (hf : f_X11_copies N l0 l1 l2 l3 s = some r) : Le s r.2 := by
  unfold f_X11_copies at hf
  split at hf
  · skip
    exact Le.via (le_X11_copies_6 N _ _ _ _ _ _ _ hf) rfl
  · cases hf
set_option maxRecDepth 20000 in
theorem zm_X11_copies {N : Nat} {s : AS} {l0 : Nat} {l1 : Int32} {l2 : Int32} {l3 : Int32} {r : Int32 × AS} (hf : f_X11_copies N l0 l1 l2 l3 s = some r) : isO s.1 l0 11 ∧ ∀ (l : Launch) (G : GG), Mt l G yX11_copies cX11_copies 7 (some .int) 6 [.ref l0, .int l1, .int l2, .int l3] s (some (.int r.1)) r.2 := by
  have hf0 := hf
  unfold f_X11_copies at hf
  split at hf
  · rename_i hO
    refine ⟨hO, fun l G => mt_of (Or.inl (by decide)) (Nat.le_of_ble_eq_true rfl) (lm_X11_copies hf0) (fun E hE => ?_)⟩
    show Z E yX11_copies cX11_copies 7 (some .int) 6 s 0 [(0, .ref l0), (1, .int l1), (2, .int l2), (3, .int l3)] []
    refine z_iconst 0 0 dX11_copies_0 (by decide) ?_
    refine z_istore [(4, .int (0 : Int32)), (0, .ref l0), (1, .int l1), (2, .int l2), (3, .int l3)] dX11_copies_1 (by decide) rfl ?_
    refine z_iconst 0 0 dX11_copies_3 (by decide) ?_
    refine z_istore [(5, .int (0 : Int32)), (4, .int (0 : Int32)), (0, .ref l0), (1, .int l1), (2, .int l2), (3, .int l3)] dX11_copies_4 (by decide) rfl ?_
    refine z_lv [(0, .ref l0), (1, .int l1), (2, .int l2), (3, .int l3), (4, .int (0 : Int32)), (5, .int (0 : Int32))] [2, 3, 4, 5, 1, 0] rfl ?_
    exact zb_X11_copies_6 hE N _ _ _ _ _ _ _ hf
  · cases hf
set_option maxRecDepth 20000 in
theorem zb_X1_isOfShorts_18 {N : Nat} {sh : Sh} {d : Dt} {r : Int32} {E : EV} (hE : TG E (some (.int r)) (sh, d))  {t0 : Int32} (hf : f_X1_isOfShorts_18 N sh t0 d = some r) : Z E yX1_isOfShorts cX1_isOfShorts 2 (some .boolean) 2 (sh, d) 18 [] [.int t0] := by
  unfold f_X1_isOfShorts_18 at hf
  obtain ⟨v3, ev3, hg⟩ := ob hf
  obtain ⟨rfl, hbv3⟩ := o_bool_spec ev3
  cases hg
  exact z_zreturn hE rfl hbv3 dX1_isOfShorts_18
set_option maxRecDepth 20000 in
theorem zm_X1_isOfShorts {N : Nat} {sh : Sh} {d : Dt} {l0 : Nat} {l1 : Int32} {r : Int32} (hf : f_X1_isOfShorts N sh l0 l1 d = some r) : isO sh l0 1 ∧ ∀ (l : Launch) (G : GG), Mt l G yX1_isOfShorts cX1_isOfShorts 2 (some .boolean) 2 [.ref l0, .int l1] (sh, d) (some (.int r)) (sh, d) := by
  have hf0 := hf
  unfold f_X1_isOfShorts at hf
  split at hf
  · rename_i hO
    refine ⟨hO, fun l G => mt_of (Or.inl (by decide)) (Nat.le_of_ble_eq_true rfl) Le.rf (fun E hE => ?_)⟩
    show Z E yX1_isOfShorts cX1_isOfShorts 2 (some .boolean) 2 (sh, d) 0 [(0, .ref l0), (1, .int l1)] []
    refine z_aload_n 0 dX1_isOfShorts_0 rfl rfl ?_
    refine z_gP (ci := 1) (k := 2) (C := RX1) (T := TX1) (N := 8) rfl inlX1 (by decide) mw_3_15 (fun _ _ _ _ h9 => h9) hf (by decide) rfl dX1_isOfShorts_1  (fun v1 hf => ?_)
    refine z_iload_n 1 dX1_isOfShorts_4 rfl rfl ?_
    refine z_iconst 1 1 dX1_isOfShorts_5 (by decide) ?_
    obtain ⟨v2, ev2, hf⟩ := ob hf
    refine z_cVi (ci := 8) (T := TX8) (N := 2) (As := [.int l1, .int (1 : Int32)]) (rest := []) (zm_X8_get ev2).2 (zm_X8_get ev2).1 (by decide) rfl (Or.inl rfl) mw_10_10 mw_10_11 mw_10_12 mw_3_13 mw_10_13 yk_X8_get (by decide) (by decide) rfl (Nat.le_of_ble_eq_true rfl) rfl dX1_isOfShorts_6 ?_
    refine z_iconst 1 1 dX1_isOfShorts_9 (by decide) ?_
    refine z_icmp_ne 17 hf dX1_isOfShorts_10 (by decide) (fun hf => ?_) (fun hf => ?_)
    · refine z_iconst 0 0 dX1_isOfShorts_17 (by decide) ?_
      refine z_lv [] [] rfl ?_
      exact zb_X1_isOfShorts_18 hE hf
    · refine z_iconst 1 1 dX1_isOfShorts_13 (by decide) ?_
      refine z_goto 18 dX1_isOfShorts_14 (by decide) ?_
      refine z_lv [] [] rfl ?_
      exact zb_X1_isOfShorts_18 hE hf
  · cases hf
set_option maxRecDepth 20000 in
theorem le_X11_copy_47 {N : Nat} {r : Int32 × AS}  {l0 : Nat} {s : AS} (hf : f_X11_copy_47 N l0 s = some r) : Le s r.2 := by
  unfold f_X11_copy_47 at hf
  obtain ⟨v15, -, hf⟩ := ob hf
  cases hf
  exact Le.rf
set_option maxRecDepth 20000 in
theorem zb_X11_copy_47 {N : Nat} {r : Int32 × AS} {E : EV} (hE : TG E (some (.int r.1)) r.2)  {l0 : Nat} {s : AS} (hf : f_X11_copy_47 N l0 s = some r) : Z E yX11_copy cX11_copy 7 (some .int) 6 s 47 [(0, .ref l0)] [] := by
  unfold f_X11_copy_47 at hf
  refine z_aload_n 0 dX11_copy_47 rfl rfl ?_
  refine z_bipush (-2) (-2) dX11_copy_48 (by decide) ?_
  obtain ⟨v15, ev15, hf⟩ := ob hf
  refine z_cVi (ci := 11) (T := TX11) (N := 14) (As := [.int (-2 : Int32)]) (rest := []) (zm_X11_refuse ev15).2 (zm_X11_refuse ev15).1 (by decide) rfl (Or.inl rfl) mw_7_22 mw_7_23 mw_8_0 mw_1_2 mw_8_1 yk_X11_refuse (by decide) (by decide) rfl (Nat.le_of_ble_eq_true rfl) rfl dX11_copy_50 ?_
  cases hf
  exact z_ireturn hE rfl dX11_copy_53
set_option maxRecDepth 20000 in
theorem le_X11_copy_86 {N : Nat} {r : Int32 × AS}  {l0 : Nat} {l1 : Int32} {l2 : Int32} {l3 : Int32} {l4 : Int32} {l5 : Int32} {s : AS} (hf : f_X11_copy_86 N l0 l1 l2 l3 l4 l5 s = some r) : Le s r.2 := by
  unfold f_X11_copy_86 at hf
  obtain ⟨v16, -, hf⟩ := ob hf
  obtain ⟨v17, -, hf⟩ := ob hf
  obtain ⟨v18, -, hf⟩ := ob hf
  cases hf
  exact Le.rf
set_option maxRecDepth 20000 in
theorem zb_X11_copy_86 {N : Nat} {r : Int32 × AS} {E : EV} (hE : TG E (some (.int r.1)) r.2)  {l0 : Nat} {l1 : Int32} {l2 : Int32} {l3 : Int32} {l4 : Int32} {l5 : Int32} {s : AS} (hf : f_X11_copy_86 N l0 l1 l2 l3 l4 l5 s = some r) : Z E yX11_copy cX11_copy 7 (some .int) 6 s 86 [(0, .ref l0), (1, .int l1), (2, .int l2), (3, .int l3), (4, .int l4), (5, .int l5)] [] := by
  unfold f_X11_copy_86 at hf
  refine z_aload_n 0 dX11_copy_86 rfl rfl ?_
  refine z_gP (ci := 11) (k := 1) (C := RX11) (T := TX11) (N := 14) rfl inlX11 (by decide) mw_1_19 (fun _ _ _ _ h9 => h9) hf (by decide) rfl dX11_copy_87  (fun v16 hf => ?_)
  refine z_iload_n 1 dX11_copy_90 rfl rfl ?_
  refine z_iload_n 2 dX11_copy_91 rfl rfl ?_
  refine z_iload_n 3 dX11_copy_92 rfl rfl ?_
  refine z_iload 4 dX11_copy_93 rfl ?_
  refine z_iload 5 dX11_copy_95 rfl ?_
  obtain ⟨v17, ev17, hf⟩ := ob hf
  refine z_cVv (ci := 1) (T := TX1) (N := 8) (As := [.int l1, .int l2, .int l3, .int l4, .int l5]) (rest := []) (zm_X1_copyReadings ev17).2 (zm_X1_copyReadings ev17).1 (by decide) rfl (Or.inl rfl) mw_26_2 mw_26_3 mw_26_4 mw_1_18 mw_26_5 yk_X1_copyReadings (by decide) (by decide) rfl (Nat.le_of_ble_eq_true rfl) rfl dX11_copy_97 ?_
  refine z_aload_n 0 dX11_copy_100 rfl rfl ?_
  refine z_iconst 1 1 dX11_copy_101 (by decide) ?_
  obtain ⟨v18, ev18, hf⟩ := ob hf
  refine z_cVi (ci := 11) (T := TX11) (N := 14) (As := [.int (1 : Int32)]) (rest := []) (zm_X11_answer ev18).2 (zm_X11_answer ev18).1 (by decide) rfl (Or.inl rfl) mw_11_2 mw_11_3 mw_11_4 mw_1_2 mw_11_5 yk_X11_answer (by decide) (by decide) rfl (Nat.le_of_ble_eq_true rfl) rfl dX11_copy_102 ?_
  cases hf
  exact z_ireturn hE rfl dX11_copy_105
set_option maxRecDepth 20000 in
theorem lm_X11_copy {N : Nat} {s : AS} {l0 : Nat} {l1 : Int32} {l2 : Int32} {l3 : Int32} {l4 : Int32} {l5 : Int32} {r : Int32 × AS} (hf : f_X11_copy N l0 l1 l2 l3 l4 l5 s = some r) : Le s r.2 := by
  unfold f_X11_copy at hf
  split at hf
  · skip
    obtain ⟨v1, -, hf⟩ := ob hf
    obtain ⟨v2, -, hf⟩ := ob hf
    obtain ⟨v3, -, hf⟩ := ob hf
    split at hf
    · exact Le.via (le_X11_copy_47 hf) rfl
    · obtain ⟨v4, -, hf⟩ := ob hf
      obtain ⟨v5, -, hf⟩ := ob hf
      obtain ⟨v6, -, hf⟩ := ob hf
      split at hf
      · exact Le.via (le_X11_copy_47 hf) rfl
      · obtain ⟨v7, -, hf⟩ := ob hf
        obtain ⟨v8, -, hf⟩ := ob hf
        obtain ⟨v9, -, hf⟩ := ob hf
        obtain ⟨v10, -, hf⟩ := ob hf
        split at hf
        · obtain ⟨v11, -, hf⟩ := ob hf
          obtain ⟨v12, -, hf⟩ := ob hf
          split at hf
          · obtain ⟨v13, ev13, hf⟩ := ob hf
            refine Le.of (t := (s.1, s.2)) rfl ((lm_X11_change ev13).tr ?_)
            exact Le.via (le_X11_copy_86 hf) rfl
          · obtain ⟨v14, -, hf⟩ := ob hf
            cases hf
            exact Le.rf
        · exact Le.via (le_X11_copy_47 hf) rfl
  · cases hf
set_option maxRecDepth 20000 in
theorem zm_X11_copy {N : Nat} {s : AS} {l0 : Nat} {l1 : Int32} {l2 : Int32} {l3 : Int32} {l4 : Int32} {l5 : Int32} {r : Int32 × AS} (hf : f_X11_copy N l0 l1 l2 l3 l4 l5 s = some r) : isO s.1 l0 11 ∧ ∀ (l : Launch) (G : GG), Mt l G yX11_copy cX11_copy 7 (some .int) 6 [.ref l0, .int l1, .int l2, .int l3, .int l4, .int l5] s (some (.int r.1)) r.2 := by
  have hf0 := hf
  unfold f_X11_copy at hf
  split at hf
  · rename_i hO
    refine ⟨hO, fun l G => mt_of (Or.inl (by decide)) (Nat.le_of_ble_eq_true rfl) (lm_X11_copy hf0) (fun E hE => ?_)⟩
    show Z E yX11_copy cX11_copy 7 (some .int) 6 s 0 [(0, .ref l0), (1, .int l1), (2, .int l2), (3, .int l3), (4, .int l4), (5, .int l5)] []
    refine z_aload_n 0 dX11_copy_0 rfl rfl ?_
    refine z_gP (ci := 11) (k := 1) (C := RX11) (T := TX11) (N := 14) rfl inlX11 (by decide) mw_1_19 (fun _ _ _ _ h9 => h9) hf (by decide) rfl dX11_copy_1  (fun v1 hf => ?_)
    refine z_gP (ci := 1) (k := 2) (C := RX1) (T := TX1) (N := 8) rfl inlX1 (by decide) mw_19_21 (fun _ _ _ _ h9 => h9) hf (by decide) rfl dX11_copy_4  (fun v2 hf => ?_)
    refine z_iload_n 1 dX11_copy_7 rfl rfl ?_
    obtain ⟨v3, ev3, hf⟩ := ob hf
    refine z_cVi (ci := 8) (T := TX8) (N := 2) (As := [.int l1]) (rest := []) (zm_X8_has ev3).2 (zm_X8_has ev3).1 (by decide) rfl (Or.inl rfl) mw_13_22 mw_13_23 mw_14_0 mw_3_13 mw_14_1 yk_X8_has (by decide) (by decide) rfl (Nat.le_of_ble_eq_true rfl) rfl dX11_copy_8 ?_
    refine z_if_eq 47 hf dX11_copy_11 (by decide) (fun hf => ?_) (fun hf => ?_)
    · refine z_lv [(0, .ref l0)] [0] rfl ?_
      exact zb_X11_copy_47 hE hf
    · refine z_aload_n 0 dX11_copy_14 rfl rfl ?_
      refine z_gP (ci := 11) (k := 1) (C := RX11) (T := TX11) (N := 14) rfl inlX11 (by decide) mw_1_19 (fun _ _ _ _ h9 => h9) hf (by decide) rfl dX11_copy_15  (fun v4 hf => ?_)
      refine z_gP (ci := 1) (k := 2) (C := RX1) (T := TX1) (N := 8) rfl inlX1 (by decide) mw_19_21 (fun _ _ _ _ h9 => h9) hf (by decide) rfl dX11_copy_18  (fun v5 hf => ?_)
      refine z_iload_n 3 dX11_copy_21 rfl rfl ?_
      obtain ⟨v6, ev6, hf⟩ := ob hf
      refine z_cVi (ci := 8) (T := TX8) (N := 2) (As := [.int l3]) (rest := []) (zm_X8_has ev6).2 (zm_X8_has ev6).1 (by decide) rfl (Or.inl rfl) mw_13_22 mw_13_23 mw_14_0 mw_3_13 mw_14_1 yk_X8_has (by decide) (by decide) rfl (Nat.le_of_ble_eq_true rfl) rfl dX11_copy_22 ?_
      refine z_if_eq 47 hf dX11_copy_25 (by decide) (fun hf => ?_) (fun hf => ?_)
      · refine z_lv [(0, .ref l0)] [0] rfl ?_
        exact zb_X11_copy_47 hE hf
      · refine z_aload_n 0 dX11_copy_28 rfl rfl ?_
        refine z_gP (ci := 11) (k := 1) (C := RX11) (T := TX11) (N := 14) rfl inlX11 (by decide) mw_1_19 (fun _ _ _ _ h9 => h9) hf (by decide) rfl dX11_copy_29  (fun v7 hf => ?_)
        refine z_iload_n 1 dX11_copy_32 rfl rfl ?_
        obtain ⟨v8, ev8, hf⟩ := ob hf
        refine z_cVi (ci := 1) (T := TX1) (N := 8) (As := [.int l1]) (rest := []) (zm_X1_isOfShorts ev8).2 (zm_X1_isOfShorts ev8).1 (by decide) rfl (Or.inl rfl) mw_22_5 mw_22_6 mw_22_7 mw_1_18 mw_22_8 yk_X1_isOfShorts (by decide) (by decide) rfl (Nat.le_of_ble_eq_true rfl) rfl dX11_copy_33 ?_
        refine z_aload_n 0 dX11_copy_36 rfl rfl ?_
        refine z_gP (ci := 11) (k := 1) (C := RX11) (T := TX11) (N := 14) rfl inlX11 (by decide) mw_1_19 (fun _ _ _ _ h9 => h9) hf (by decide) rfl dX11_copy_37  (fun v9 hf => ?_)
        refine z_iload_n 3 dX11_copy_40 rfl rfl ?_
        obtain ⟨v10, ev10, hf⟩ := ob hf
        refine z_cVi (ci := 1) (T := TX1) (N := 8) (As := [.int l3]) (rest := [.int v8]) (zm_X1_isOfShorts ev10).2 (zm_X1_isOfShorts ev10).1 (by decide) rfl (Or.inl rfl) mw_22_5 mw_22_6 mw_22_7 mw_1_18 mw_22_8 yk_X1_isOfShorts (by decide) (by decide) rfl (Nat.le_of_ble_eq_true rfl) rfl dX11_copy_41 ?_
        refine z_icmp_eq 54 hf dX11_copy_44 (by decide) (fun hf => ?_) (fun hf => ?_)
        · refine z_aload_n 0 dX11_copy_54 rfl rfl ?_
          refine z_gP (ci := 11) (k := 1) (C := RX11) (T := TX11) (N := 14) rfl inlX11 (by decide) mw_1_19 (fun _ _ _ _ h9 => h9) hf (by decide) rfl dX11_copy_55  (fun v11 hf => ?_)
          refine z_iload_n 1 dX11_copy_58 rfl rfl ?_
          refine z_iload_n 2 dX11_copy_59 rfl rfl ?_
          refine z_iload_n 3 dX11_copy_60 rfl rfl ?_
          refine z_iload 4 dX11_copy_61 rfl ?_
          refine z_iload 5 dX11_copy_63 rfl ?_
          obtain ⟨v12, ev12, hf⟩ := ob hf
          refine z_cVi (ci := 1) (T := TX1) (N := 8) (As := [.int l1, .int l2, .int l3, .int l4, .int l5]) (rest := []) (zm_X1_whyUncopied ev12).2 (zm_X1_whyUncopied ev12).1 (by decide) rfl (Or.inl rfl) mw_25_18 mw_25_19 mw_25_20 mw_1_18 mw_25_21 yk_X1_whyUncopied (by decide) (by decide) rfl (Nat.le_of_ble_eq_true rfl) rfl dX11_copy_65 ?_
          refine z_istore [(6, .int v12), (0, .ref l0), (1, .int l1), (2, .int l2), (3, .int l3), (4, .int l4), (5, .int l5)] dX11_copy_68 (by decide) rfl ?_
          refine z_iload 0 dX11_copy_70 rfl ?_
          refine z_if_eq 82 hf dX11_copy_72 (by decide) (fun hf => ?_) (fun hf => ?_)
          · refine z_aload_n 1 dX11_copy_82 rfl rfl ?_
            obtain ⟨v13, ev13, hf⟩ := ob hf
            refine z_cVv (ci := 11) (T := TX11) (N := 14) (As := []) (rest := []) (zm_X11_change ev13).2 (zm_X11_change ev13).1 (by decide) rfl (Or.inr (tg_le hE (le_X11_copy_86 hf))) mw_8_7 mw_8_8 mw_8_9 mw_1_2 mw_8_10 yk_X11_change (by decide) (by decide) rfl (Nat.le_of_ble_eq_true rfl) rfl dX11_copy_83 ?_
            refine z_lv [(0, .ref l0), (1, .int l1), (2, .int l2), (3, .int l3), (4, .int l4), (5, .int l5)] [1, 2, 3, 4, 5, 6] rfl ?_
            exact zb_X11_copy_86 hE hf
          · refine z_aload_n 1 dX11_copy_75 rfl rfl ?_
            refine z_iload 0 dX11_copy_76 rfl ?_
            obtain ⟨v14, ev14, hf⟩ := ob hf
            refine z_cVi (ci := 11) (T := TX11) (N := 14) (As := [.int v12]) (rest := []) (zm_X11_refuse ev14).2 (zm_X11_refuse ev14).1 (by decide) rfl (Or.inl rfl) mw_7_22 mw_7_23 mw_8_0 mw_1_2 mw_8_1 yk_X11_refuse (by decide) (by decide) rfl (Nat.le_of_ble_eq_true rfl) rfl dX11_copy_78 ?_
            cases hf
            exact z_ireturn hE rfl dX11_copy_81
        · refine z_lv [(0, .ref l0)] [0] rfl ?_
          exact zb_X11_copy_47 hE hf
  · cases hf
set_option maxRecDepth 20000 in
theorem zm_X11_count {N : Nat} {sh : Sh} {d : Dt} {l0 : Nat} {l1 : Int32} {r : Int32} (hf : f_X11_count N sh l0 l1 d = some r) : isO sh l0 11 ∧ ∀ (l : Launch) (G : GG), Mt l G yX11_count cX11_count 2 (some .int) 1 [.ref l0, .int l1] (sh, d) (some (.int r)) (sh, d) := by
  have hf0 := hf
  unfold f_X11_count at hf
  split at hf
  · rename_i hO
    refine ⟨hO, fun l G => mt_of (Or.inl (by decide)) (Nat.le_of_ble_eq_true rfl) Le.rf (fun E hE => ?_)⟩
    show Z E yX11_count cX11_count 2 (some .int) 1 (sh, d) 0 [(0, .ref l0), (1, .int l1)] []
    refine z_iload_n 1 dX11_count_0 rfl rfl ?_
    refine z_tabc (v := 0) 31 32 hf dX11_count_1 (by decide) (by decide) rfl (by decide) (fun hf => ?_) (fun n3 hf => ?_)
    · refine z_aload_n 0 dX11_count_32 rfl rfl ?_
      refine z_gP (ci := 11) (k := 1) (C := RX11) (T := TX11) (N := 14) rfl inlX11 (by decide) mw_1_19 (fun _ _ _ _ h9 => h9) hf (by decide) rfl dX11_count_33  (fun v1 hf => ?_)
      refine z_gI (ci := 1) (k := 0) (C := RX1) (T := TX1) (N := 8) rfl inlX1 (by decide) mw_7_21 (fun _ _ _ _ h9 => h9) hf (by decide) rfl dX11_count_36  (fun v2 hf => ?_)
      cases hf
      exact z_ireturn hE rfl dX11_count_39
    refine z_tabc (v := 1) 39 40 hf dX11_count_1 (by decide) (by decide) rfl (by decide) (fun hf => ?_) (fun n7 hf => ?_)
    · refine z_aload_n 0 dX11_count_40 rfl rfl ?_
      refine z_gP (ci := 11) (k := 1) (C := RX11) (T := TX11) (N := 14) rfl inlX11 (by decide) mw_1_19 (fun _ _ _ _ h9 => h9) hf (by decide) rfl dX11_count_41  (fun v4 hf => ?_)
      refine z_gP (ci := 1) (k := 1) (C := RX1) (T := TX1) (N := 8) rfl inlX1 (by decide) mw_12_12 (fun _ _ _ _ h9 => h9) hf (by decide) rfl dX11_count_44  (fun v5 hf => ?_)
      refine z_gI (ci := 8) (k := 1) (C := RX8) (T := TX8) (N := 2) rfl inlX8 (by decide) mw_12_13 (fun _ _ _ _ h9 => h9) hf (by decide) rfl dX11_count_47  (fun v6 hf => ?_)
      cases hf
      exact z_ireturn hE rfl dX11_count_50
    refine z_tabc (v := 2) 50 51 hf dX11_count_1 (by decide) (by decide) rfl (by decide) (fun hf => ?_) (fun n11 hf => ?_)
    · refine z_aload_n 0 dX11_count_51 rfl rfl ?_
      refine z_gP (ci := 11) (k := 1) (C := RX11) (T := TX11) (N := 14) rfl inlX11 (by decide) mw_1_19 (fun _ _ _ _ h9 => h9) hf (by decide) rfl dX11_count_52  (fun v8 hf => ?_)
      refine z_gP (ci := 1) (k := 2) (C := RX1) (T := TX1) (N := 8) rfl inlX1 (by decide) mw_19_21 (fun _ _ _ _ h9 => h9) hf (by decide) rfl dX11_count_55  (fun v9 hf => ?_)
      refine z_gI (ci := 8) (k := 1) (C := RX8) (T := TX8) (N := 2) rfl inlX8 (by decide) mw_12_13 (fun _ _ _ _ h9 => h9) hf (by decide) rfl dX11_count_58  (fun v10 hf => ?_)
      cases hf
      exact z_ireturn hE rfl dX11_count_61
    refine z_tabc (v := 3) 61 62 hf dX11_count_1 (by decide) (by decide) rfl (by decide) (fun hf => ?_) (fun n15 hf => ?_)
    · refine z_aload_n 0 dX11_count_62 rfl rfl ?_
      refine z_gP (ci := 11) (k := 1) (C := RX11) (T := TX11) (N := 14) rfl inlX11 (by decide) mw_1_19 (fun _ _ _ _ h9 => h9) hf (by decide) rfl dX11_count_63  (fun v12 hf => ?_)
      refine z_gP (ci := 1) (k := 3) (C := RX1) (T := TX1) (N := 8) rfl inlX1 (by decide) mw_29_16 (fun _ _ _ _ h9 => h9) hf (by decide) rfl dX11_count_66  (fun v13 hf => ?_)
      refine z_gI (ci := 8) (k := 1) (C := RX8) (T := TX8) (N := 2) rfl inlX8 (by decide) mw_12_13 (fun _ _ _ _ h9 => h9) hf (by decide) rfl dX11_count_69  (fun v14 hf => ?_)
      cases hf
      exact z_ireturn hE rfl dX11_count_72
    refine z_tabd 73 dX11_count_1 (by have qn3 := tab_out 0 (by decide) n3; have qn7 := tab_out 1 (by decide) n7; have qn11 := tab_out 2 (by decide) n11; have qn15 := tab_out 3 (by decide) n15; omega) (by decide) ?_
    refine z_bipush (-2) (-2) dX11_count_73 (by decide) ?_
    cases hf
    exact z_ireturn hE rfl dX11_count_75
  · cases hf
set_option maxRecDepth 20000 in
theorem le_X11_crossings_11 {N : Nat} {r : Int32 × AS}  {l0 : Nat} {s : AS} (hf : f_X11_crossings_11 N l0 s = some r) : Le s r.2 := by
  unfold f_X11_crossings_11 at hf
  obtain ⟨v5, -, hf⟩ := ob hf
  cases hf
  exact Le.rf
set_option maxRecDepth 20000 in
theorem zb_X11_crossings_11 {N : Nat} {r : Int32 × AS} {E : EV} (hE : TG E (some (.int r.1)) r.2)  {l0 : Nat} {s : AS} (hf : f_X11_crossings_11 N l0 s = some r) : Z E yX11_crossings cX11_crossings 2 (some .int) 6 s 11 [(0, .ref l0)] [] := by
  unfold f_X11_crossings_11 at hf
  refine z_aload_n 0 dX11_crossings_11 rfl rfl ?_
  refine z_bipush (-2) (-2) dX11_crossings_12 (by decide) ?_
  obtain ⟨v5, ev5, hf⟩ := ob hf
  refine z_cVi (ci := 11) (T := TX11) (N := 14) (As := [.int (-2 : Int32)]) (rest := []) (zm_X11_refuse ev5).2 (zm_X11_refuse ev5).1 (by decide) rfl (Or.inl rfl) mw_7_22 mw_7_23 mw_8_0 mw_1_2 mw_8_1 yk_X11_refuse (by decide) (by decide) rfl (Nat.le_of_ble_eq_true rfl) rfl dX11_crossings_14 ?_
  cases hf
  exact z_ireturn hE rfl dX11_crossings_17
set_option maxRecDepth 20000 in
theorem le_X11_crossings_43 {N : Nat} {r : Int32 × AS}  {l0 : Nat} {l1 : Int32} {s : AS} (hf : f_X11_crossings_43 N l0 l1 s = some r) : Le s r.2 := by
  unfold f_X11_crossings_43 at hf
  obtain ⟨v6, -, hf⟩ := ob hf
  obtain ⟨v7, -, hf⟩ := ob hf
  obtain ⟨d8, -, hf⟩ := ob hf
  obtain ⟨v9, -, hf⟩ := ob hf
  obtain ⟨v10, -, hf⟩ := ob hf
  obtain ⟨v11, -, hf⟩ := ob hf
  cases hf
  exact Le.rf
set_option maxRecDepth 20000 in
theorem zb_X11_crossings_43 {N : Nat} {r : Int32 × AS} {E : EV} (hE : TG E (some (.int r.1)) r.2)  {l0 : Nat} {l1 : Int32} {s : AS} (hf : f_X11_crossings_43 N l0 l1 s = some r) : Z E yX11_crossings cX11_crossings 2 (some .int) 6 s 43 [(0, .ref l0), (1, .int l1)] [] := by
  unfold f_X11_crossings_43 at hf
  refine z_aload_n 0 dX11_crossings_43 rfl rfl ?_
  refine z_gP (ci := 11) (k := 1) (C := RX11) (T := TX11) (N := 14) rfl inlX11 (by decide) mw_1_19 (fun _ _ _ _ h9 => h9) hf (by decide) rfl dX11_crossings_44  (fun v6 hf => ?_)
  refine z_dup dX11_crossings_47 rfl ?_
  refine z_gI (ci := 1) (k := 0) (C := RX1) (T := TX1) (N := 8) rfl inlX1 (by decide) mw_7_21 (fun _ _ _ _ h9 => h9) hf (by decide) rfl dX11_crossings_48  (fun v7 hf => ?_)
  refine z_iload_n 1 dX11_crossings_51 rfl rfl ?_
  refine z_iadd dX11_crossings_52 ?_
  refine z_pI (ci := 1) (k := 0) (C := RX1) (T := TX1) (N := 8) rfl inlX1 (by decide) mw_7_21 (fun _ _ _ _ h9 => h9) tyX1 tyX1_ok nmX1 rfl hf (Or.inl (by decide)) rfl rfl rfl dX11_crossings_53  (fun d8 hf => ?_)
  refine z_aload_n 0 dX11_crossings_56 rfl rfl ?_
  refine z_aload_n 0 dX11_crossings_57 rfl rfl ?_
  refine z_gP (ci := 11) (k := 1) (C := RX11) (T := TX11) (N := 14) rfl inlX11 (by decide) mw_1_19 (fun _ _ _ _ h9 => h9) hf (by decide) rfl dX11_crossings_58  (fun v9 hf => ?_)
  refine z_gI (ci := 1) (k := 0) (C := RX1) (T := TX1) (N := 8) rfl inlX1 (by decide) mw_7_21 (fun _ _ _ _ h9 => h9) hf (by decide) rfl dX11_crossings_61  (fun v10 hf => ?_)
  obtain ⟨v11, ev11, hf⟩ := ob hf
  refine z_cVi (ci := 11) (T := TX11) (N := 14) (As := [.int v10]) (rest := []) (zm_X11_answer ev11).2 (zm_X11_answer ev11).1 (by decide) rfl (Or.inl rfl) mw_11_2 mw_11_3 mw_11_4 mw_1_2 mw_11_5 yk_X11_answer (by decide) (by decide) rfl (Nat.le_of_ble_eq_true rfl) rfl dX11_crossings_64 ?_
  cases hf
  exact z_ireturn hE rfl dX11_crossings_67
set_option maxRecDepth 20000 in
theorem lm_X11_crossings {N : Nat} {s : AS} {l0 : Nat} {l1 : Int32} {r : Int32 × AS} (hf : f_X11_crossings N l0 l1 s = some r) : Le s r.2 := by
  unfold f_X11_crossings at hf
  split at hf
  · skip
    split at hf
    · exact Le.via (le_X11_crossings_11 hf) rfl
    · split at hf
      · obtain ⟨v1, -, hf⟩ := ob hf
        obtain ⟨v2, -, hf⟩ := ob hf
        split at hf
        · obtain ⟨v3, ev3, hf⟩ := ob hf
          refine Le.of (t := (s.1, s.2)) rfl ((lm_X11_change ev3).tr ?_)
          exact Le.via (le_X11_crossings_43 hf) rfl
        · obtain ⟨v4, -, hf⟩ := ob hf
          cases hf
          exact Le.rf
      · exact Le.via (le_X11_crossings_11 hf) rfl
  · cases hf
set_option maxRecDepth 20000 in
theorem zm_X11_crossings {N : Nat} {s : AS} {l0 : Nat} {l1 : Int32} {r : Int32 × AS} (hf : f_X11_crossings N l0 l1 s = some r) : isO s.1 l0 11 ∧ ∀ (l : Launch) (G : GG), Mt l G yX11_crossings cX11_crossings 2 (some .int) 6 [.ref l0, .int l1] s (some (.int r.1)) r.2 := by
  have hf0 := hf
  unfold f_X11_crossings at hf
  split at hf
  · rename_i hO
    refine ⟨hO, fun l G => mt_of (Or.inl (by decide)) (Nat.le_of_ble_eq_true rfl) (lm_X11_crossings hf0) (fun E hE => ?_)⟩
    show Z E yX11_crossings cX11_crossings 2 (some .int) 6 s 0 [(0, .ref l0), (1, .int l1)] []
    refine z_iload_n 1 dX11_crossings_0 rfl rfl ?_
    refine z_iconst 1 1 dX11_crossings_1 (by decide) ?_
    refine z_icmp_lt 11 hf dX11_crossings_2 (by decide) (fun hf => ?_) (fun hf => ?_)
    · refine z_lv [(0, .ref l0)] [0] rfl ?_
      exact zb_X11_crossings_11 hE hf
    · refine z_iload_n 1 dX11_crossings_5 rfl rfl ?_
      refine z_bipush 20 20 dX11_crossings_6 (by decide) ?_
      refine z_icmp_le 18 hf dX11_crossings_8 (by decide) (fun hf => ?_) (fun hf => ?_)
      · refine z_aload_n 0 dX11_crossings_18 rfl rfl ?_
        refine z_gP (ci := 11) (k := 1) (C := RX11) (T := TX11) (N := 14) rfl inlX11 (by decide) mw_1_19 (fun _ _ _ _ h9 => h9) hf (by decide) rfl dX11_crossings_19  (fun v1 hf => ?_)
        refine z_gI (ci := 1) (k := 0) (C := RX1) (T := TX1) (N := 8) rfl inlX1 (by decide) mw_7_21 (fun _ _ _ _ h9 => h9) hf (by decide) rfl dX11_crossings_22  (fun v2 hf => ?_)
        refine z_iload_n 1 dX11_crossings_25 rfl rfl ?_
        refine z_iadd dX11_crossings_26 ?_
        refine z_bipush 60 60 dX11_crossings_27 (by decide) ?_
        refine z_icmp_le 39 hf dX11_crossings_29 (by decide) (fun hf => ?_) (fun hf => ?_)
        · refine z_aload_n 0 dX11_crossings_39 rfl rfl ?_
          obtain ⟨v3, ev3, hf⟩ := ob hf
          refine z_cVv (ci := 11) (T := TX11) (N := 14) (As := []) (rest := []) (zm_X11_change ev3).2 (zm_X11_change ev3).1 (by decide) rfl (Or.inr (tg_le hE (le_X11_crossings_43 hf))) mw_8_7 mw_8_8 mw_8_9 mw_1_2 mw_8_10 yk_X11_change (by decide) (by decide) rfl (Nat.le_of_ble_eq_true rfl) rfl dX11_crossings_40 ?_
          exact zb_X11_crossings_43 hE hf
        · refine z_aload_n 0 dX11_crossings_32 rfl rfl ?_
          refine z_bipush (-3) (-3) dX11_crossings_33 (by decide) ?_
          obtain ⟨v4, ev4, hf⟩ := ob hf
          refine z_cVi (ci := 11) (T := TX11) (N := 14) (As := [.int (-3 : Int32)]) (rest := []) (zm_X11_refuse ev4).2 (zm_X11_refuse ev4).1 (by decide) rfl (Or.inl rfl) mw_7_22 mw_7_23 mw_8_0 mw_1_2 mw_8_1 yk_X11_refuse (by decide) (by decide) rfl (Nat.le_of_ble_eq_true rfl) rfl dX11_crossings_35 ?_
          cases hf
          exact z_ireturn hE rfl dX11_crossings_38
      · refine z_lv [(0, .ref l0)] [0] rfl ?_
        exact zb_X11_crossings_11 hE hf
  · cases hf
set_option maxRecDepth 20000 in
theorem zb_X8_digestOf_52 {N : Nat} {sh : Sh} {d : Dt} {r : Int32} {E : EV} (hE : TG E (some (.int r)) (sh, d))  {l2 : Int32} (hf : f_X8_digestOf_52 N sh l2 d = some r) : Z E yX8_digestOf cX8_digestOf 5 (some .int) 1 (sh, d) 52 [(2, .int l2)] [] := by
  unfold f_X8_digestOf_52 at hf
  refine z_iload_n 0 dX8_digestOf_52 rfl rfl ?_
  cases hf
  exact z_ireturn hE rfl dX8_digestOf_53
set_option maxRecDepth 20000 in
theorem zb_X8_digestOf_46 {N : Nat} {sh : Sh} {d : Dt} {k4 : Nat → Int32 → Int32 → Option Int32} {r : Int32} {E : EV} (hE : TG E (some (.int r)) (sh, d)) (hk4 : ∀ (l0 : Nat) (l2 : Int32) (l3 : Int32), k4 l0 l2 l3 = some r → Z E yX8_digestOf cX8_digestOf 5 (some .int) 1 (sh, d) 4 [(0, .ref l0), (2, .int l2), (3, .int l3)] []) {l0 : Nat} {l2 : Int32} {l3 : Int32} (hf : f_X8_digestOf_46 N sh k4 l0 l2 l3 d = some r) : Z E yX8_digestOf cX8_digestOf 5 (some .int) 1 (sh, d) 46 [(0, .ref l0), (2, .int l2), (3, .int l3)] [] := by
  unfold f_X8_digestOf_46 at hf
  refine z_iinc [(3, .int (l3 + 1)), (0, .ref l0), (2, .int l2)] 2 (l3 + 1) dX8_digestOf_46 rfl rfl (by decide) rfl ?_
  refine z_goto 4 dX8_digestOf_49 (by decide) ?_
  refine z_lv [(0, .ref l0), (2, .int l2), (3, .int (l3 + 1))] [1, 2, 0] rfl ?_
  exact hk4 _ _ _ hf
set_option maxRecDepth 20000 in
theorem zg_X8_digestOf_15 {N : Nat} {sh : Sh} {d : Dt} {k4 : Nat → Int32 → Int32 → Option Int32} {r : Int32} {k15 : Nat → Int32 → Int32 → Int32 → Option Int32} {E : EV} (hE : TG E (some (.int r)) (sh, d)) (hk4 : ∀ (l0 : Nat) (l2 : Int32) (l3 : Int32), k4 l0 l2 l3 = some r → Z E yX8_digestOf cX8_digestOf 5 (some .int) 1 (sh, d) 4 [(0, .ref l0), (2, .int l2), (3, .int l3)] []) (hk15 : ∀ (l0 : Nat) (l2 : Int32) (l3 : Int32) (l4 : Int32), k15 l0 l2 l3 l4 = some r → Z E yX8_digestOf cX8_digestOf 5 (some .int) 1 (sh, d) 15 [(0, .ref l0), (2, .int l2), (3, .int l3), (4, .int l4)] []) {l0 : Nat} {l2 : Int32} {l3 : Int32} {l4 : Int32} (hf : g_X8_digestOf_15 N sh k4 k15 l0 l2 l3 l4 d = some r) : Z E yX8_digestOf cX8_digestOf 5 (some .int) 1 (sh, d) 15 [(0, .ref l0), (2, .int l2), (3, .int l3), (4, .int l4)] [] := by
  unfold g_X8_digestOf_15 at hf
  refine z_iload 3 dX8_digestOf_15 rfl ?_
  refine z_aload_n 0 dX8_digestOf_17 rfl rfl ?_
  refine z_gP (ci := 8) (k := 0) (C := RX8) (T := TX8) (N := 2) rfl inlX8 (by decide) mw_4_4 (fun _ _ _ _ h9 => h9) hf (by decide) rfl dX8_digestOf_18  (fun v2 hf => ?_)
  refine z_aLen hf dX8_digestOf_21  (fun v3 hf => ?_)
  refine z_icmp_ge 46 hf dX8_digestOf_22 (by decide) (fun hf => ?_) (fun hf => ?_)
  · refine z_lv [(0, .ref l0), (2, .int l2), (3, .int l3)] [0, 1, 2] rfl ?_
    exact zb_X8_digestOf_46 hE hk4 hf
  · refine z_bipush 31 31 dX8_digestOf_25 (by decide) ?_
    refine z_iload_n 1 dX8_digestOf_27 rfl rfl ?_
    refine z_imul dX8_digestOf_28 ?_
    refine z_aload_n 0 dX8_digestOf_29 rfl rfl ?_
    refine z_gP (ci := 8) (k := 0) (C := RX8) (T := TX8) (N := 2) rfl inlX8 (by decide) mw_4_4 (fun _ _ _ _ h9 => h9) hf (by decide) rfl dX8_digestOf_30  (fun v4 hf => ?_)
    refine z_iload 3 dX8_digestOf_33 rfl ?_
    refine z_aR hf dX8_digestOf_35  (fun v5 hf => ?_)
    refine z_iload_n 2 dX8_digestOf_36 rfl rfl ?_
    refine z_aI hf dX8_digestOf_37  (fun v6 hf => ?_)
    refine z_iadd dX8_digestOf_38 ?_
    refine z_istore_n [(2, .int (((31 : Int32) * l2) + v6)), (0, .ref l0), (3, .int l3), (4, .int l4)] dX8_digestOf_39 rfl (by decide) rfl ?_
    refine z_iinc [(4, .int (l4 + 1)), (2, .int (((31 : Int32) * l2) + v6)), (0, .ref l0), (3, .int l3)] 3 (l4 + 1) dX8_digestOf_40 rfl rfl (by decide) rfl ?_
    refine z_goto 15 dX8_digestOf_43 (by decide) ?_
    refine z_lv [(0, .ref l0), (2, .int (((31 : Int32) * l2) + v6)), (3, .int l3), (4, .int (l4 + 1))] [2, 1, 3, 0] rfl ?_
    exact hk15 _ _ _ _ hf
set_option maxRecDepth 20000 in
theorem zb_X8_digestOf_15 {N : Nat} {sh : Sh} {d : Dt} {k4 : Nat → Int32 → Int32 → Option Int32} {r : Int32} {E : EV} (hE : TG E (some (.int r)) (sh, d)) (hk4 : ∀ (l0 : Nat) (l2 : Int32) (l3 : Int32), k4 l0 l2 l3 = some r → Z E yX8_digestOf cX8_digestOf 5 (some .int) 1 (sh, d) 4 [(0, .ref l0), (2, .int l2), (3, .int l3)] []) : ∀ (n : Nat) (l0 : Nat) (l2 : Int32) (l3 : Int32) (l4 : Int32), f_X8_digestOf_15 N sh k4 d n l0 l2 l3 l4 = some r → Z E yX8_digestOf cX8_digestOf 5 (some .int) 1 (sh, d) 15 [(0, .ref l0), (2, .int l2), (3, .int l3), (4, .int l4)] [] := by
  intro n
  induction n with
  | zero => intro l0 l2 l3 l4 hf; cases hf
  | succ n ih => intro l0 l2 l3 l4 hf; exact zg_X8_digestOf_15 hE hk4 ih hf
set_option maxRecDepth 20000 in
theorem zg_X8_digestOf_4 {N : Nat} {sh : Sh} {d : Dt} {r : Int32} {k4 : Nat → Int32 → Int32 → Option Int32} {E : EV} (hE : TG E (some (.int r)) (sh, d))  (hk4 : ∀ (l0 : Nat) (l2 : Int32) (l3 : Int32), k4 l0 l2 l3 = some r → Z E yX8_digestOf cX8_digestOf 5 (some .int) 1 (sh, d) 4 [(0, .ref l0), (2, .int l2), (3, .int l3)] []) {l0 : Nat} {l2 : Int32} {l3 : Int32} (hf : g_X8_digestOf_4 N sh k4 l0 l2 l3 d = some r) : Z E yX8_digestOf cX8_digestOf 5 (some .int) 1 (sh, d) 4 [(0, .ref l0), (2, .int l2), (3, .int l3)] [] := by
  unfold g_X8_digestOf_4 at hf
  refine z_iload_n 2 dX8_digestOf_4 rfl rfl ?_
  refine z_aload_n 0 dX8_digestOf_5 rfl rfl ?_
  refine z_gI (ci := 8) (k := 1) (C := RX8) (T := TX8) (N := 2) rfl inlX8 (by decide) mw_4_2 (fun _ _ _ _ h9 => h9) hf (by decide) rfl dX8_digestOf_6  (fun v1 hf => ?_)
  refine z_icmp_ge 52 hf dX8_digestOf_9 (by decide) (fun hf => ?_) (fun hf => ?_)
  · refine z_lv [(2, .int l2)] [1] rfl ?_
    exact zb_X8_digestOf_52 hE hf
  · refine z_iconst 0 0 dX8_digestOf_12 (by decide) ?_
    refine z_istore [(4, .int (0 : Int32)), (0, .ref l0), (2, .int l2), (3, .int l3)] dX8_digestOf_13 (by decide) rfl ?_
    refine z_lv [(0, .ref l0), (2, .int l2), (3, .int l3), (4, .int (0 : Int32))] [1, 2, 3, 0] rfl ?_
    exact zb_X8_digestOf_15 hE hk4 N _ _ _ _ hf
set_option maxRecDepth 20000 in
theorem zb_X8_digestOf_4 {N : Nat} {sh : Sh} {d : Dt} {r : Int32} {E : EV} (hE : TG E (some (.int r)) (sh, d))  : ∀ (n : Nat) (l0 : Nat) (l2 : Int32) (l3 : Int32), f_X8_digestOf_4 N sh d n l0 l2 l3 = some r → Z E yX8_digestOf cX8_digestOf 5 (some .int) 1 (sh, d) 4 [(0, .ref l0), (2, .int l2), (3, .int l3)] [] := by
  intro n
  induction n with
  | zero => intro l0 l2 l3 hf; cases hf
  | succ n ih => intro l0 l2 l3 hf; exact zg_X8_digestOf_4 hE ih hf
set_option maxRecDepth 20000 in
theorem zm_X8_digestOf {N : Nat} {sh : Sh} {d : Dt} {l0 : Nat} {l1 : Int32} {r : Int32} (hf : f_X8_digestOf N sh l0 l1 d = some r) : isO sh l0 8 ∧ ∀ (l : Launch) (G : GG), Mt l G yX8_digestOf cX8_digestOf 5 (some .int) 1 [.ref l0, .int l1] (sh, d) (some (.int r)) (sh, d) := by
  have hf0 := hf
  unfold f_X8_digestOf at hf
  split at hf
  · rename_i hO
    refine ⟨hO, fun l G => mt_of (Or.inl (by decide)) (Nat.le_of_ble_eq_true rfl) Le.rf (fun E hE => ?_)⟩
    show Z E yX8_digestOf cX8_digestOf 5 (some .int) 1 (sh, d) 0 [(0, .ref l0), (1, .int l1)] []
    refine z_iload_n 1 dX8_digestOf_0 rfl rfl ?_
    refine z_istore_n [(2, .int l1), (0, .ref l0), (1, .int l1)] dX8_digestOf_1 rfl (by decide) rfl ?_
    refine z_iconst 0 0 dX8_digestOf_2 (by decide) ?_
    refine z_istore_n [(3, .int (0 : Int32)), (2, .int l1), (0, .ref l0), (1, .int l1)] dX8_digestOf_3 rfl (by decide) rfl ?_
    refine z_lv [(0, .ref l0), (2, .int l1), (3, .int (0 : Int32))] [2, 1, 0] rfl ?_
    exact zb_X8_digestOf_4 hE N _ _ _ hf
  · cases hf
set_option maxRecDepth 20000 in
theorem zb_X1_cellAt_61 {N : Nat} {sh : Sh} {d : Dt} {r : Int32} {E : EV} (hE : TG E (some (.int r)) (sh, d))  {t0 : Int32} (hf : f_X1_cellAt_61 N sh t0 d = some r) : Z E yX1_cellAt cX1_cellAt 5 (some .int) 2 (sh, d) 61 [] [.int t0] := by
  unfold f_X1_cellAt_61 at hf
  cases hf
  exact z_ireturn hE rfl dX1_cellAt_61
set_option maxRecDepth 20000 in
theorem zb_X1_cellAt_43 {N : Nat} {sh : Sh} {d : Dt} {r : Int32} {E : EV} (hE : TG E (some (.int r)) (sh, d))  {l0 : Nat} {t0 : Int32} (hf : f_X1_cellAt_43 N sh l0 t0 d = some r) : Z E yX1_cellAt cX1_cellAt 5 (some .int) 2 (sh, d) 43 [(0, .ref l0)] [.int t0] := by
  unfold f_X1_cellAt_43 at hf
  refine z_istore [(4, .int t0), (0, .ref l0)] dX1_cellAt_43 (by decide) rfl ?_
  refine z_iload 0 dX1_cellAt_45 rfl ?_
  refine z_aload_n 1 dX1_cellAt_47 rfl rfl ?_
  refine z_gQ (ci := 1) (k := 7) (C := RX1) (T := TX1) (N := 8) rfl inlX1 (by decide) mw_3_21 (fun _ _ _ _ h9 => h9) hf (by decide) rfl dX1_cellAt_48  (fun v3 hf => ?_)
  refine z_aLen hf dX1_cellAt_51  (fun v4 hf => ?_)
  refine z_icmp_ge 60 hf dX1_cellAt_52 (by decide) (fun hf => ?_) (fun hf => ?_)
  · refine z_iconst (-1) (-1) dX1_cellAt_60 (by decide) ?_
    refine z_lv [] [] rfl ?_
    exact zb_X1_cellAt_61 hE hf
  · refine z_iload 0 dX1_cellAt_55 rfl ?_
    refine z_goto 61 dX1_cellAt_57 (by decide) ?_
    refine z_lv [] [] rfl ?_
    exact zb_X1_cellAt_61 hE hf
set_option maxRecDepth 20000 in
theorem zb_X1_cellAt_27 {N : Nat} {sh : Sh} {d : Dt} {r : Int32} {E : EV} (hE : TG E (some (.int r)) (sh, d))  {l0 : Nat} {l1 : Int32} {l2 : Int32} {t0 : Int32} (hf : f_X1_cellAt_27 N sh l0 l1 l2 t0 d = some r) : Z E yX1_cellAt cX1_cellAt 5 (some .int) 2 (sh, d) 27 [(0, .ref l0), (1, .int l1), (2, .int l2)] [.int t0] := by
  unfold f_X1_cellAt_27 at hf
  refine z_istore_n [(3, .int t0), (0, .ref l0), (1, .int l1), (2, .int l2)] dX1_cellAt_27 rfl (by decide) rfl ?_
  refine z_iload_n 0 dX1_cellAt_28 rfl rfl ?_
  refine z_if_eq 42 hf dX1_cellAt_29 (by decide) (fun hf => ?_) (fun hf => ?_)
  · refine z_iconst (-1) (-1) dX1_cellAt_42 (by decide) ?_
    refine z_lv [(0, .ref l0)] [1] rfl ?_
    exact zb_X1_cellAt_43 hE hf
  · refine z_iload_n 2 dX1_cellAt_32 rfl rfl ?_
    refine z_sipush 200 200 dX1_cellAt_33 (by decide) ?_
    refine z_imul dX1_cellAt_36 ?_
    refine z_iload_n 3 dX1_cellAt_37 rfl rfl ?_
    refine z_iadd dX1_cellAt_38 ?_
    refine z_goto 43 dX1_cellAt_39 (by decide) ?_
    refine z_lv [(0, .ref l0)] [1] rfl ?_
    exact zb_X1_cellAt_43 hE hf
set_option maxRecDepth 20000 in
theorem zb_X1_cellAt_26 {N : Nat} {sh : Sh} {d : Dt} {r : Int32} {E : EV} (hE : TG E (some (.int r)) (sh, d))  {l0 : Nat} {l1 : Int32} {l2 : Int32} (hf : f_X1_cellAt_26 N sh l0 l1 l2 d = some r) : Z E yX1_cellAt cX1_cellAt 5 (some .int) 2 (sh, d) 26 [(0, .ref l0), (1, .int l1), (2, .int l2)] [] := by
  unfold f_X1_cellAt_26 at hf
  refine z_iconst 0 0 dX1_cellAt_26 (by decide) ?_
  exact zb_X1_cellAt_27 hE hf
set_option maxRecDepth 20000 in
theorem zm_X1_cellAt {N : Nat} {sh : Sh} {d : Dt} {l0 : Nat} {l1 : Int32} {l2 : Int32} {r : Int32} (hf : f_X1_cellAt N sh l0 l1 l2 d = some r) : isO sh l0 1 ∧ ∀ (l : Launch) (G : GG), Mt l G yX1_cellAt cX1_cellAt 5 (some .int) 2 [.ref l0, .int l1, .int l2] (sh, d) (some (.int r)) (sh, d) := by
  have hf0 := hf
  unfold f_X1_cellAt at hf
  split at hf
  · rename_i hO
    refine ⟨hO, fun l G => mt_of (Or.inl (by decide)) (Nat.le_of_ble_eq_true rfl) Le.rf (fun E hE => ?_)⟩
    show Z E yX1_cellAt cX1_cellAt 5 (some .int) 2 (sh, d) 0 [(0, .ref l0), (1, .int l1), (2, .int l2)] []
    refine z_aload_n 0 dX1_cellAt_0 rfl rfl ?_
    refine z_gP (ci := 1) (k := 2) (C := RX1) (T := TX1) (N := 8) rfl inlX1 (by decide) mw_3_15 (fun _ _ _ _ h9 => h9) hf (by decide) rfl dX1_cellAt_1  (fun v1 hf => ?_)
    refine z_iload_n 1 dX1_cellAt_4 rfl rfl ?_
    obtain ⟨v2, ev2, hf⟩ := ob hf
    refine z_cVi (ci := 8) (T := TX8) (N := 2) (As := [.int l1]) (rest := []) (zm_X8_has ev2).2 (zm_X8_has ev2).1 (by decide) rfl (Or.inl rfl) mw_21_4 mw_13_23 mw_14_0 mw_3_13 mw_14_1 yk_X8_has (by decide) (by decide) rfl (Nat.le_of_ble_eq_true rfl) rfl dX1_cellAt_5 ?_
    refine z_if_eq 26 hf dX1_cellAt_8 (by decide) (fun hf => ?_) (fun hf => ?_)
    · exact zb_X1_cellAt_26 hE hf
    · refine z_iload_n 2 dX1_cellAt_11 rfl rfl ?_
      refine z_if_lt 26 hf dX1_cellAt_12 (by decide) (fun hf => ?_) (fun hf => ?_)
      · exact zb_X1_cellAt_26 hE hf
      · refine z_iload_n 2 dX1_cellAt_15 rfl rfl ?_
        refine z_sipush 200 200 dX1_cellAt_16 (by decide) ?_
        refine z_icmp_ge 26 hf dX1_cellAt_19 (by decide) (fun hf => ?_) (fun hf => ?_)
        · exact zb_X1_cellAt_26 hE hf
        · refine z_iconst 1 1 dX1_cellAt_22 (by decide) ?_
          refine z_goto 27 dX1_cellAt_23 (by decide) ?_
          exact zb_X1_cellAt_27 hE hf
  · cases hf
set_option maxRecDepth 20000 in
theorem zb_X1_height_37 {N : Nat} {sh : Sh} {d : Dt} {r : UInt32} {E : EV} (hE : TG E (some (.float r)) (sh, d))   (hf : f_X1_height_37 N sh  d = some r) : Z E yX1_height cX1_height 6 (some .float) 3 (sh, d) 37 [] [] := by
  unfold f_X1_height_37 at hf
  refine z_ldcf mw_24_13 dX1_height_37 ?_
  cases hf
  exact z_freturn hE rfl dX1_height_39
set_option maxRecDepth 20000 in
theorem zb_X1_height_86 {N : Nat} {sh : Sh} {d : Dt} {r : UInt32} {E : EV} (hE : TG E (some (.float r)) (sh, d))  {t0 : UInt32} (hf : f_X1_height_86 N sh t0 d = some r) : Z E yX1_height cX1_height 6 (some .float) 3 (sh, d) 86 [] [.float t0] := by
  unfold f_X1_height_86 at hf
  cases hf
  exact z_freturn hE rfl dX1_height_86
set_option maxRecDepth 20000 in
theorem zb_X1_height_71 {N : Nat} {sh : Sh} {d : Dt} {r : UInt32} {E : EV} (hE : TG E (some (.float r)) (sh, d))  {t0 : UInt32} (hf : f_X1_height_71 N sh t0 d = some r) : Z E yX1_height cX1_height 6 (some .float) 3 (sh, d) 71 [] [.float t0] := by
  unfold f_X1_height_71 at hf
  refine z_fstore [(5, .float t0)] dX1_height_71 (by decide) rfl ?_
  refine z_fload 0 dX1_height_73 rfl ?_
  refine z_fconst0 dX1_height_75 ?_
  refine z_fcmp dX1_height_76 ?_
  refine z_if_ge 84 hf dX1_height_77 (by decide) (fun hf => ?_) (fun hf => ?_)
  · refine z_fload 0 dX1_height_84 rfl ?_
    refine z_lv [] [] rfl ?_
    exact zb_X1_height_86 hE hf
  · refine z_fconst0 dX1_height_80 ?_
    refine z_goto 86 dX1_height_81 (by decide) ?_
    refine z_lv [] [] rfl ?_
    exact zb_X1_height_86 hE hf
set_option maxRecDepth 20000 in
theorem zm_X1_height {N : Nat} {sh : Sh} {d : Dt} {l0 : Nat} {l1 : Int32} {l2 : Int32} {r : UInt32} (hf : f_X1_height N sh l0 l1 l2 d = some r) : isO sh l0 1 ∧ ∀ (l : Launch) (G : GG), Mt l G yX1_height cX1_height 6 (some .float) 3 [.ref l0, .int l1, .int l2] (sh, d) (some (.float r)) (sh, d) := by
  have hf0 := hf
  unfold f_X1_height at hf
  split at hf
  · rename_i hO
    refine ⟨hO, fun l G => mt_of (Or.inl (by decide)) (Nat.le_of_ble_eq_true rfl) Le.rf (fun E hE => ?_)⟩
    show Z E yX1_height cX1_height 6 (some .float) 3 (sh, d) 0 [(0, .ref l0), (1, .int l1), (2, .int l2)] []
    refine z_aload_n 0 dX1_height_0 rfl rfl ?_
    refine z_iload_n 1 dX1_height_1 rfl rfl ?_
    refine z_iload_n 2 dX1_height_2 rfl rfl ?_
    obtain ⟨v1, ev1, hf⟩ := ob hf
    refine z_cVi (ci := 1) (T := TX1) (N := 8) (As := [.int l1, .int l2]) (rest := []) (zm_X1_cellAt ev1).2 (zm_X1_cellAt ev1).1 (by decide) rfl (Or.inl rfl) mw_21_0 mw_21_1 mw_21_2 mw_1_18 mw_21_3 yk_X1_cellAt (by decide) (by decide) rfl (Nat.le_of_ble_eq_true rfl) rfl dX1_height_3 ?_
    refine z_istore_n [(3, .int v1), (0, .ref l0), (1, .int l1), (2, .int l2)] dX1_height_6 rfl (by decide) rfl ?_
    refine z_iload_n 0 dX1_height_7 rfl rfl ?_
    refine z_if_lt 37 hf dX1_height_8 (by decide) (fun hf => ?_) (fun hf => ?_)
    · refine z_lv [] [] rfl ?_
      exact zb_X1_height_37 hE hf
    · refine z_aload_n 1 dX1_height_11 rfl rfl ?_
      refine z_gQ (ci := 1) (k := 7) (C := RX1) (T := TX1) (N := 8) rfl inlX1 (by decide) mw_3_21 (fun _ _ _ _ h9 => h9) hf (by decide) rfl dX1_height_12  (fun v2 hf => ?_)
      refine z_iload_n 0 dX1_height_15 rfl rfl ?_
      refine z_aJ hf dX1_height_16  (fun v3 hf => ?_)
      refine z_ldc2 mw_22_12 dX1_height_17 ?_
      refine z_lcmp dX1_height_20 ?_
      refine z_if_eq 37 hf dX1_height_21 (by decide) (fun hf => ?_) (fun hf => ?_)
      · refine z_lv [] [] rfl ?_
        exact zb_X1_height_37 hE hf
      · refine z_aload_n 1 dX1_height_24 rfl rfl ?_
        refine z_gQ (ci := 1) (k := 7) (C := RX1) (T := TX1) (N := 8) rfl inlX1 (by decide) mw_3_21 (fun _ _ _ _ h9 => h9) hf (by decide) rfl dX1_height_25  (fun v4 hf => ?_)
        refine z_iload_n 0 dX1_height_28 rfl rfl ?_
        refine z_aJ hf dX1_height_29  (fun v5 hf => ?_)
        refine z_ldc2 mw_22_13 dX1_height_30 ?_
        refine z_lcmp dX1_height_33 ?_
        refine z_if_ne 40 hf dX1_height_34 (by decide) (fun hf => ?_) (fun hf => ?_)
        · refine z_aload_n 1 dX1_height_40 rfl rfl ?_
          refine z_gQ (ci := 1) (k := 7) (C := RX1) (T := TX1) (N := 8) rfl inlX1 (by decide) mw_3_21 (fun _ _ _ _ h9 => h9) hf (by decide) rfl dX1_height_41  (fun v6 hf => ?_)
          refine z_iload_n 0 dX1_height_44 rfl rfl ?_
          refine z_aJ hf dX1_height_45  (fun v7 hf => ?_)
          refine z_l2i dX1_height_46 ?_
          refine z_i2f dX1_height_47 ?_
          refine z_fstore [(4, .float (FP.i2f v7.toInt32)), (3, .int v1), (0, .ref l0), (1, .int l1), (2, .int l2)] dX1_height_48 (by decide) rfl ?_
          refine z_aload_n 2 dX1_height_50 rfl rfl ?_
          refine z_iload_n 3 dX1_height_51 rfl rfl ?_
          obtain ⟨v8, ev8, hf⟩ := ob hf
          refine z_cVi (ci := 1) (T := TX1) (N := 8) (As := [.int l1]) (rest := []) (zm_X1_isOfShorts ev8).2 (zm_X1_isOfShorts ev8).1 (by decide) rfl (Or.inl rfl) mw_24_15 mw_22_6 mw_22_7 mw_1_18 mw_22_8 yk_X1_isOfShorts (by decide) (by decide) rfl (Nat.le_of_ble_eq_true rfl) rfl dX1_height_52 ?_
          refine z_if_eq 66 hf dX1_height_55 (by decide) (fun hf => ?_) (fun hf => ?_)
          · refine z_fload 0 dX1_height_66 rfl ?_
            refine z_ldcf mw_24_14 dX1_height_68 ?_
            refine z_fdiv hf dX1_height_70  (fun v9 hf => ?_)
            refine z_lv [] [] rfl ?_
            exact zb_X1_height_71 hE hf
          · refine z_fload 0 dX1_height_58 rfl ?_
            refine z_ldcf mw_24_7 dX1_height_60 ?_
            refine z_fdiv hf dX1_height_62  (fun v10 hf => ?_)
            refine z_goto 71 dX1_height_63 (by decide) ?_
            refine z_lv [] [] rfl ?_
            exact zb_X1_height_71 hE hf
        · refine z_lv [] [] rfl ?_
          exact zb_X1_height_37 hE hf
  · cases hf
set_option maxRecDepth 20000 in
theorem zb_X1_tenths_27 {N : Nat} {sh : Sh} {d : Dt} {r : Int32} {E : EV} (hE : TG E (some (.int r)) (sh, d))  {t0 : Int32} (hf : f_X1_tenths_27 N sh t0 d = some r) : Z E yX1_tenths cX1_tenths 4 (some .int) 4 (sh, d) 27 [] [.int t0] := by
  unfold f_X1_tenths_27 at hf
  cases hf
  exact z_ireturn hE rfl dX1_tenths_27
set_option maxRecDepth 20000 in
theorem zm_X1_tenths {N : Nat} {sh : Sh} {d : Dt} {l0 : Nat} {l1 : Int32} {l2 : Int32} {r : Int32} (hf : f_X1_tenths N sh l0 l1 l2 d = some r) : isO sh l0 1 ∧ ∀ (l : Launch) (G : GG), Mt l G yX1_tenths cX1_tenths 4 (some .int) 4 [.ref l0, .int l1, .int l2] (sh, d) (some (.int r)) (sh, d) := by
  have hf0 := hf
  unfold f_X1_tenths at hf
  split at hf
  · rename_i hO
    refine ⟨hO, fun l G => mt_of (Or.inl (by decide)) (Nat.le_of_ble_eq_true rfl) Le.rf (fun E hE => ?_)⟩
    show Z E yX1_tenths cX1_tenths 4 (some .int) 4 (sh, d) 0 [(0, .ref l0), (1, .int l1), (2, .int l2)] []
    refine z_aload_n 0 dX1_tenths_0 rfl rfl ?_
    refine z_iload_n 1 dX1_tenths_1 rfl rfl ?_
    refine z_iload_n 2 dX1_tenths_2 rfl rfl ?_
    obtain ⟨v1, ev1, hf⟩ := ob hf
    refine z_cVf (ci := 1) (T := TX1) (N := 8) (As := [.int l1, .int l2]) (rest := []) (zm_X1_height ev1).2 (zm_X1_height ev1).1 (by decide) rfl (Or.inl rfl) mw_24_9 mw_24_10 mw_24_11 mw_1_18 mw_24_12 yk_X1_height (by decide) (by decide) rfl (Nat.le_of_ble_eq_true rfl) rfl dX1_tenths_3 ?_
    refine z_fstore_n [(3, .float v1), (0, .ref l0), (1, .int l1), (2, .int l2)] dX1_tenths_6 rfl (by decide) rfl ?_
    refine z_fload_n 0 dX1_tenths_7 rfl rfl ?_
    refine z_fconst0 dX1_tenths_8 ?_
    refine z_fcmp dX1_tenths_9 ?_
    refine z_if_ge 17 hf dX1_tenths_10 (by decide) (fun hf => ?_) (fun hf => ?_)
    · refine z_ldc mw_24_6 dX1_tenths_17 ?_
      refine z_fload_n 0 dX1_tenths_19 rfl rfl ?_
      refine z_ldcf mw_24_7 dX1_tenths_20 ?_
      refine z_fmul hf dX1_tenths_22  (fun v2 hf => ?_)
      refine z_f2i dX1_tenths_23 ?_
      refine z_min mw_24_8 mw_9_20 mw_8_22 mw_9_21 (by decide) (Nat.le_of_ble_eq_true rfl) dX1_tenths_24 ?_
      refine z_lv [] [] rfl ?_
      exact zb_X1_tenths_27 hE hf
    · refine z_iconst (-1) (-1) dX1_tenths_13 (by decide) ?_
      refine z_goto 27 dX1_tenths_14 (by decide) ?_
      refine z_lv [] [] rfl ?_
      exact zb_X1_tenths_27 hE hf
  · cases hf
