set_option maxRecDepth 20000 in
theorem le_X4_fillTable_16 {N : Nat} {r : AS}   {s : AS} (hf : f_X4_fillTable_16 N  s = some r) : Le s r := by
  unfold f_X4_fillTable_16 at hf
  cases hf
  exact Le.rf
set_option maxRecDepth 20000 in
theorem zb_X4_fillTable_16 {N : Nat} {r : AS} {E : EV} (hE : TG E none r)   {s : AS} (hf : f_X4_fillTable_16 N  s = some r) : Z E yX4_fillTable cX4_fillTable 3 none 4 s 16 [] [] := by
  unfold f_X4_fillTable_16 at hf
  cases hf
  exact z_return hE rfl dX4_fillTable_16
set_option maxRecDepth 20000 in
theorem le_X4_fillTable_146 {N : Nat} {r : AS}  {l0 : Nat} {s : AS} (hf : f_X4_fillTable_146 N l0 s = some r) : Le s r := by
  unfold f_X4_fillTable_146 at hf
  obtain ⟨d25, -, hf⟩ := ob hf
  cases hf
  exact Le.rf
set_option maxRecDepth 20000 in
theorem zb_X4_fillTable_146 {N : Nat} {r : AS} {E : EV} (hE : TG E none r)  {l0 : Nat} {s : AS} (hf : f_X4_fillTable_146 N l0 s = some r) : Z E yX4_fillTable cX4_fillTable 3 none 4 s 146 [(0, .ref l0)] [] := by
  unfold f_X4_fillTable_146 at hf
  refine z_aload_n 0 dX4_fillTable_146 rfl rfl ?_
  refine z_iconst 1 1 dX4_fillTable_147 (by decide) ?_
  refine z_pI (ci := 4) (k := 7) (C := RX4) (T := TX4) (N := 12) rfl inlX4 (by decide) mw_5_6 (fun _ _ _ _ h9 => h9) tyX4 tyX4_ok nmX4 rfl hf (Or.inl (by decide)) rfl rfl rfl dX4_fillTable_148  (fun d25 hf => ?_)
  cases hf
  exact z_return hE rfl dX4_fillTable_151
set_option maxRecDepth 20000 in
theorem le_X4_fillTable_139 {N : Nat} {k110 : Nat → Int32 → Int32 → AS → Option AS} {r : AS} (hk110 : ∀ (l0 : Nat) (l1 : Int32) (l2 : Int32) (s : AS), k110 l0 l1 l2 s = some r → Le s r) {l0 : Nat} {l1 : Int32} {l2 : Int32} {t0 : Nat} {t1 : Int32} {t2 : Int32} {s : AS} (hf : f_X4_fillTable_139 N k110 l0 l1 l2 t0 t1 t2 s = some r) : Le s r := by
  unfold f_X4_fillTable_139 at hf
  obtain ⟨d26, -, hf⟩ := ob hf
  exact Le.via (hk110 _ _ _ _ hf) rfl
set_option maxRecDepth 20000 in
theorem zb_X4_fillTable_139 {N : Nat} {k110 : Nat → Int32 → Int32 → AS → Option AS} {r : AS} {E : EV} (hE : TG E none r) (hk110 : ∀ (l0 : Nat) (l1 : Int32) (l2 : Int32) (s : AS), k110 l0 l1 l2 s = some r → Z E yX4_fillTable cX4_fillTable 3 none 4 s 110 [(0, .ref l0), (1, .int l1), (2, .int l2)] []) {l0 : Nat} {l1 : Int32} {l2 : Int32} {t0 : Nat} {t1 : Int32} {t2 : Int32} {s : AS} (hf : f_X4_fillTable_139 N k110 l0 l1 l2 t0 t1 t2 s = some r) : Z E yX4_fillTable cX4_fillTable 3 none 4 s 139 [(0, .ref l0), (1, .int l1), (2, .int l2)] [.int t2, .int t1, .ref t0] := by
  unfold f_X4_fillTable_139 at hf
  refine z_sI hf dX4_fillTable_139  (fun d26 hf => ?_)
  refine z_iinc [(2, .int (l2 + 1)), (0, .ref l0), (1, .int l1)] 2 (l2 + 1) dX4_fillTable_140 rfl rfl (by decide) rfl ?_
  refine z_goto 110 dX4_fillTable_143 (by decide) ?_
  refine z_lv [(0, .ref l0), (1, .int l1), (2, .int (l2 + 1))] [1, 2, 0] rfl ?_
  exact hk110 _ _ _ _ hf
set_option maxRecDepth 20000 in
theorem lg_X4_fillTable_110 {N : Nat} {r : AS} {k110 : Nat → Int32 → Int32 → AS → Option AS}  (hk110 : ∀ (l0 : Nat) (l1 : Int32) (l2 : Int32) (s : AS), k110 l0 l1 l2 s = some r → Le s r) {l0 : Nat} {l1 : Int32} {l2 : Int32} {s : AS} (hf : g_X4_fillTable_110 N k110 l0 l1 l2 s = some r) : Le s r := by
  unfold g_X4_fillTable_110 at hf
  split at hf
  · exact Le.via (le_X4_fillTable_146 hf) rfl
  · obtain ⟨v21, -, hf⟩ := ob hf
    obtain ⟨v22, -, hf⟩ := ob hf
    obtain ⟨v23, -, hf⟩ := ob hf
    split at hf
    · exact Le.via (le_X4_fillTable_139 hk110 hf) rfl
    · obtain ⟨v24, -, hf⟩ := ob hf
      exact Le.via (le_X4_fillTable_139 hk110 hf) rfl
set_option maxRecDepth 20000 in
theorem le_X4_fillTable_110 {N : Nat} {r : AS}  : ∀ (n : Nat) (l0 : Nat) (l1 : Int32) (l2 : Int32) (s : AS), f_X4_fillTable_110 N n l0 l1 l2 s = some r → Le s r := by
  intro n
  induction n with
  | zero => intro l0 l1 l2 s hf; cases hf
  | succ n ih => intro l0 l1 l2 s hf; exact lg_X4_fillTable_110 ih hf
set_option maxRecDepth 20000 in
theorem zg_X4_fillTable_110 {N : Nat} {r : AS} {k110 : Nat → Int32 → Int32 → AS → Option AS} {E : EV} (hE : TG E none r)  (hk110 : ∀ (l0 : Nat) (l1 : Int32) (l2 : Int32) (s : AS), k110 l0 l1 l2 s = some r → Z E yX4_fillTable cX4_fillTable 3 none 4 s 110 [(0, .ref l0), (1, .int l1), (2, .int l2)] []) {l0 : Nat} {l1 : Int32} {l2 : Int32} {s : AS} (hf : g_X4_fillTable_110 N k110 l0 l1 l2 s = some r) : Z E yX4_fillTable cX4_fillTable 3 none 4 s 110 [(0, .ref l0), (1, .int l1), (2, .int l2)] [] := by
  unfold g_X4_fillTable_110 at hf
  refine z_iload_n 2 dX4_fillTable_110 rfl rfl ?_
  refine z_iload_n 1 dX4_fillTable_111 rfl rfl ?_
  refine z_icmp_ge 146 hf dX4_fillTable_112 (by decide) (fun hf => ?_) (fun hf => ?_)
  · refine z_lv [(0, .ref l0)] [0] rfl ?_
    exact zb_X4_fillTable_146 hE hf
  · refine z_aload_n 0 dX4_fillTable_115 rfl rfl ?_
    refine z_gQ (ci := 4) (k := 6) (C := RX4) (T := TX4) (N := 12) rfl inlX4 (by decide) mw_5_5 (fun _ _ _ _ h9 => h9) hf (by decide) rfl dX4_fillTable_116  (fun v21 hf => ?_)
    refine z_iload_n 2 dX4_fillTable_119 rfl rfl ?_
    refine z_iload_n 2 dX4_fillTable_120 rfl rfl ?_
    obtain ⟨v22, ev22, hf⟩ := ob hf
    refine z_cTi (As := [.int l2]) (rest := [.int l2, .ref v21]) (zm_J6_bitCount_0f7a4 ev22) (Or.inl rfl) mw_41_12 mw_41_13 mw_41_14 mw_41_15 yk_J6_bitCount_0f7a4 (by decide) (by decide) rfl (Nat.le_of_ble_eq_true rfl) rfl dX4_fillTable_121 ?_
    refine z_iconst 2 2 dX4_fillTable_124 (by decide) ?_
    refine z_irem hf dX4_fillTable_125  (fun v23 hf => ?_)
    refine z_if_ne 137 hf dX4_fillTable_126 (by decide) (fun hf => ?_) (fun hf => ?_)
    · refine z_ldc mw_41_10 dX4_fillTable_137 ?_
      exact zb_X4_fillTable_139 hE hk110 hf
    · refine z_aload_n 0 dX4_fillTable_129 rfl rfl ?_
      refine z_iload_n 2 dX4_fillTable_130 rfl rfl ?_
      obtain ⟨v24, ev24, hf⟩ := ob hf
      refine z_cVi (ci := 4) (T := TX4) (N := 12) (As := [.int l2]) (rest := [.int l2, .ref v21]) (zm_X4_leastByPartner ev24).2 (zm_X4_leastByPartner ev24).1 (by decide) rfl (Or.inl rfl) mw_41_19 mw_41_20 mw_41_21 mw_2_3 mw_41_22 yk_X4_leastByPartner (by decide) (by decide) rfl (Nat.le_of_ble_eq_true rfl) rfl dX4_fillTable_131 ?_
      refine z_goto 139 dX4_fillTable_134 (by decide) ?_
      exact zb_X4_fillTable_139 hE hk110 hf
set_option maxRecDepth 20000 in
theorem zb_X4_fillTable_110 {N : Nat} {r : AS} {E : EV} (hE : TG E none r)  : ∀ (n : Nat) (l0 : Nat) (l1 : Int32) (l2 : Int32) (s : AS), f_X4_fillTable_110 N n l0 l1 l2 s = some r → Z E yX4_fillTable cX4_fillTable 3 none 4 s 110 [(0, .ref l0), (1, .int l1), (2, .int l2)] [] := by
  intro n
  induction n with
  | zero => intro l0 l1 l2 s hf; cases hf
  | succ n ih => intro l0 l1 l2 s hf; exact zg_X4_fillTable_110 hE ih hf
set_option maxRecDepth 20000 in
theorem le_X4_fillTable_101 {N : Nat} {r : AS}  {l0 : Nat} {l1 : Int32} {s : AS} (hf : f_X4_fillTable_101 N l0 l1 s = some r) : Le s r := by
  unfold f_X4_fillTable_101 at hf
  obtain ⟨v18, -, hf⟩ := ob hf
  obtain ⟨d19, -, hf⟩ := ob hf
  exact Le.via (le_X4_fillTable_110 N _ _ _ _ hf) rfl
set_option maxRecDepth 20000 in
theorem zb_X4_fillTable_101 {N : Nat} {r : AS} {E : EV} (hE : TG E none r)  {l0 : Nat} {l1 : Int32} {s : AS} (hf : f_X4_fillTable_101 N l0 l1 s = some r) : Z E yX4_fillTable cX4_fillTable 3 none 4 s 101 [(0, .ref l0), (1, .int l1)] [] := by
  unfold f_X4_fillTable_101 at hf
  refine z_aload_n 0 dX4_fillTable_101 rfl rfl ?_
  refine z_gQ (ci := 4) (k := 6) (C := RX4) (T := TX4) (N := 12) rfl inlX4 (by decide) mw_5_5 (fun _ _ _ _ h9 => h9) hf (by decide) rfl dX4_fillTable_102  (fun v18 hf => ?_)
  refine z_iconst 0 0 dX4_fillTable_105 (by decide) ?_
  refine z_iconst 0 0 dX4_fillTable_106 (by decide) ?_
  refine z_sI hf dX4_fillTable_107  (fun d19 hf => ?_)
  refine z_iconst 1 1 dX4_fillTable_108 (by decide) ?_
  refine z_istore_n [(2, .int (1 : Int32)), (0, .ref l0), (1, .int l1)] dX4_fillTable_109 rfl (by decide) rfl ?_
  refine z_lv [(0, .ref l0), (1, .int l1), (2, .int (1 : Int32))] [1, 2, 0] rfl ?_
  exact zb_X4_fillTable_110 hE N _ _ _ _ hf
set_option maxRecDepth 20000 in
theorem le_X4_fillTable_98 {N : Nat} {r : AS}  {l0 : Nat} {l1 : Int32} {t0 : Nat} {t1 : Nat} {s : AS} (hf : f_X4_fillTable_98 N l0 l1 t0 t1 s = some r) : Le s r := by
  unfold f_X4_fillTable_98 at hf
  obtain ⟨d20, -, hf⟩ := ob hf
  exact Le.via (le_X4_fillTable_101 hf) rfl
set_option maxRecDepth 20000 in
theorem zb_X4_fillTable_98 {N : Nat} {r : AS} {E : EV} (hE : TG E none r)  {l0 : Nat} {l1 : Int32} {t0 : Nat} {t1 : Nat} {s : AS} (hf : f_X4_fillTable_98 N l0 l1 t0 t1 s = some r) : Z E yX4_fillTable cX4_fillTable 3 none 4 s 98 [(0, .ref l0), (1, .int l1)] [.ref t1, .ref t0] := by
  unfold f_X4_fillTable_98 at hf
  refine z_pQ (ci := 4) (k := 6) (C := RX4) (T := TX4) (N := 12) rfl inlX4 (by decide) mw_5_5 (fun _ _ _ _ h9 => h9) tyX4 tyX4_ok nmX4 rfl hf (by decide) rfl rfl rfl dX4_fillTable_98  (fun d20 hf => ?_)
  exact zb_X4_fillTable_101 hE hf
set_option maxRecDepth 20000 in
theorem le_X4_fillTable_78 {N : Nat} {r : AS}  {l0 : Nat} {s : AS} (hf : f_X4_fillTable_78 N l0 s = some r) : Le s r := by
  unfold f_X4_fillTable_78 at hf
  obtain ⟨v4, -, hf⟩ := ob hf
  obtain ⟨v5, -, hf⟩ := ob hf
  obtain ⟨v6, -, hf⟩ := ob hf
  split at hf
  · exact Le.via (le_X4_fillTable_101 hf) rfl
  · obtain ⟨s7, es7, hf⟩ := ob hf
    refine Le.of (t := (s.1, s.2)) rfl ((le_nArr es7).tr ?_)
    exact Le.via (le_X4_fillTable_98 hf) rfl
set_option maxRecDepth 20000 in
theorem zb_X4_fillTable_78 {N : Nat} {r : AS} {E : EV} (hE : TG E none r)  {l0 : Nat} {s : AS} (hf : f_X4_fillTable_78 N l0 s = some r) : Z E yX4_fillTable cX4_fillTable 3 none 4 s 78 [(0, .ref l0)] [] := by
  unfold f_X4_fillTable_78 at hf
  refine z_iconst 1 1 dX4_fillTable_78 (by decide) ?_
  refine z_aload_n 0 dX4_fillTable_79 rfl rfl ?_
  refine z_gI (ci := 4) (k := 3) (C := RX4) (T := TX4) (N := 12) rfl inlX4 (by decide) mw_5_1 (fun _ _ _ _ h9 => h9) hf (by decide) rfl dX4_fillTable_80  (fun v4 hf => ?_)
  refine z_ishl dX4_fillTable_83 ?_
  refine z_istore_n [(1, .int ((1 : Int32) <<< (v4 &&& 31))), (0, .ref l0)] dX4_fillTable_84 rfl (by decide) rfl ?_
  refine z_iload_n 0 dX4_fillTable_85 rfl rfl ?_
  refine z_aload_n 1 dX4_fillTable_86 rfl rfl ?_
  refine z_gQ (ci := 4) (k := 6) (C := RX4) (T := TX4) (N := 12) rfl inlX4 (by decide) mw_5_5 (fun _ _ _ _ h9 => h9) hf (by decide) rfl dX4_fillTable_87  (fun v5 hf => ?_)
  refine z_aLen hf dX4_fillTable_90  (fun v6 hf => ?_)
  refine z_icmp_le 101 hf dX4_fillTable_91 (by decide) (fun hf => ?_) (fun hf => ?_)
  · refine z_lv [(0, .ref l0), (1, .int ((1 : Int32) <<< (v4 &&& 31)))] [1, 0] rfl ?_
    exact zb_X4_fillTable_101 hE hf
  · refine z_aload_n 1 dX4_fillTable_94 rfl rfl ?_
    refine z_iload_n 0 dX4_fillTable_95 rfl rfl ?_
    refine z_na0 hf (fun _ hf => tg_le hE (le_X4_fillTable_98 hf)) mw_2_13 dX4_fillTable_96 (fun s7 hf => ?_)
    refine z_lv [(0, .ref l0), (1, .int ((1 : Int32) <<< (v4 &&& 31)))] [1, 0] rfl ?_
    exact zb_X4_fillTable_98 hE hf
set_option maxRecDepth 20000 in
theorem le_X4_fillTable_72 {N : Nat} {k19 : Nat → Int32 → AS → Option AS} {r : AS} (hk19 : ∀ (l0 : Nat) (l1 : Int32) (s : AS), k19 l0 l1 s = some r → Le s r) {l0 : Nat} {l1 : Int32} {s : AS} (hf : f_X4_fillTable_72 N k19 l0 l1 s = some r) : Le s r := by
  unfold f_X4_fillTable_72 at hf
  exact Le.via (hk19 _ _ _ hf) rfl
set_option maxRecDepth 20000 in
theorem zb_X4_fillTable_72 {N : Nat} {k19 : Nat → Int32 → AS → Option AS} {r : AS} {E : EV} (hE : TG E none r) (hk19 : ∀ (l0 : Nat) (l1 : Int32) (s : AS), k19 l0 l1 s = some r → Z E yX4_fillTable cX4_fillTable 3 none 4 s 19 [(0, .ref l0), (1, .int l1)] []) {l0 : Nat} {l1 : Int32} {s : AS} (hf : f_X4_fillTable_72 N k19 l0 l1 s = some r) : Z E yX4_fillTable cX4_fillTable 3 none 4 s 72 [(0, .ref l0), (1, .int l1)] [] := by
  unfold f_X4_fillTable_72 at hf
  refine z_iinc [(1, .int (l1 + 1)), (0, .ref l0)] 1 (l1 + 1) dX4_fillTable_72 rfl rfl (by decide) rfl ?_
  refine z_goto 19 dX4_fillTable_75 (by decide) ?_
  refine z_lv [(0, .ref l0), (1, .int (l1 + 1))] [1, 0] rfl ?_
  exact hk19 _ _ _ hf
set_option maxRecDepth 20000 in
theorem lg_X4_fillTable_31 {N : Nat} {k19 : Nat → Int32 → AS → Option AS} {r : AS} {k31 : Nat → Int32 → Int32 → AS → Option AS} (hk19 : ∀ (l0 : Nat) (l1 : Int32) (s : AS), k19 l0 l1 s = some r → Le s r) (hk31 : ∀ (l0 : Nat) (l1 : Int32) (l2 : Int32) (s : AS), k31 l0 l1 l2 s = some r → Le s r) {l0 : Nat} {l1 : Int32} {l2 : Int32} {s : AS} (hf : g_X4_fillTable_31 N k19 k31 l0 l1 l2 s = some r) : Le s r := by
  unfold g_X4_fillTable_31 at hf
  obtain ⟨v8, -, hf⟩ := ob hf
  split at hf
  · exact Le.via (le_X4_fillTable_72 hk19 hf) rfl
  · obtain ⟨v9, -, hf⟩ := ob hf
    obtain ⟨v10, -, hf⟩ := ob hf
    obtain ⟨v11, -, hf⟩ := ob hf
    obtain ⟨v12, -, hf⟩ := ob hf
    obtain ⟨v13, -, hf⟩ := ob hf
    obtain ⟨v14, -, hf⟩ := ob hf
    obtain ⟨v15, -, hf⟩ := ob hf
    obtain ⟨v16, -, hf⟩ := ob hf
    obtain ⟨d17, -, hf⟩ := ob hf
    exact Le.via (hk31 _ _ _ _ hf) rfl
set_option maxRecDepth 20000 in
theorem le_X4_fillTable_31 {N : Nat} {k19 : Nat → Int32 → AS → Option AS} {r : AS} (hk19 : ∀ (l0 : Nat) (l1 : Int32) (s : AS), k19 l0 l1 s = some r → Le s r) : ∀ (n : Nat) (l0 : Nat) (l1 : Int32) (l2 : Int32) (s : AS), f_X4_fillTable_31 N k19 n l0 l1 l2 s = some r → Le s r := by
  intro n
  induction n with
  | zero => intro l0 l1 l2 s hf; cases hf
  | succ n ih => intro l0 l1 l2 s hf; exact lg_X4_fillTable_31 hk19 ih hf
set_option maxRecDepth 20000 in
theorem zg_X4_fillTable_31 {N : Nat} {k19 : Nat → Int32 → AS → Option AS} {r : AS} {k31 : Nat → Int32 → Int32 → AS → Option AS} {E : EV} (hE : TG E none r) (hk19 : ∀ (l0 : Nat) (l1 : Int32) (s : AS), k19 l0 l1 s = some r → Z E yX4_fillTable cX4_fillTable 3 none 4 s 19 [(0, .ref l0), (1, .int l1)] []) (hk31 : ∀ (l0 : Nat) (l1 : Int32) (l2 : Int32) (s : AS), k31 l0 l1 l2 s = some r → Z E yX4_fillTable cX4_fillTable 3 none 4 s 31 [(0, .ref l0), (1, .int l1), (2, .int l2)] []) {l0 : Nat} {l1 : Int32} {l2 : Int32} {s : AS} (hf : g_X4_fillTable_31 N k19 k31 l0 l1 l2 s = some r) : Z E yX4_fillTable cX4_fillTable 3 none 4 s 31 [(0, .ref l0), (1, .int l1), (2, .int l2)] [] := by
  unfold g_X4_fillTable_31 at hf
  refine z_iload_n 2 dX4_fillTable_31 rfl rfl ?_
  refine z_aload_n 0 dX4_fillTable_32 rfl rfl ?_
  refine z_gI (ci := 4) (k := 3) (C := RX4) (T := TX4) (N := 12) rfl inlX4 (by decide) mw_5_1 (fun _ _ _ _ h9 => h9) hf (by decide) rfl dX4_fillTable_33  (fun v8 hf => ?_)
  refine z_icmp_ge 72 hf dX4_fillTable_36 (by decide) (fun hf => ?_) (fun hf => ?_)
  · refine z_lv [(0, .ref l0), (1, .int l1)] [0, 1] rfl ?_
    exact zb_X4_fillTable_72 hE hk19 hf
  · refine z_aload_n 0 dX4_fillTable_39 rfl rfl ?_
    refine z_gP (ci := 4) (k := 5) (C := RX4) (T := TX4) (N := 12) rfl inlX4 (by decide) mw_5_4 (fun _ _ _ _ h9 => h9) hf (by decide) rfl dX4_fillTable_40  (fun v9 hf => ?_)
    refine z_iload_n 1 dX4_fillTable_43 rfl rfl ?_
    refine z_aR hf dX4_fillTable_44  (fun v10 hf => ?_)
    refine z_iload_n 2 dX4_fillTable_45 rfl rfl ?_
    refine z_aload_n 0 dX4_fillTable_46 rfl rfl ?_
    refine z_gP (ci := 4) (k := 1) (C := RX4) (T := TX4) (N := 12) rfl inlX4 (by decide) mw_5_12 (fun _ _ _ _ h9 => h9) hf (by decide) rfl dX4_fillTable_47  (fun v11 hf => ?_)
    refine z_aload_n 0 dX4_fillTable_50 rfl rfl ?_
    refine z_gP (ci := 4) (k := 2) (C := RX4) (T := TX4) (N := 12) rfl inlX4 (by decide) mw_5_0 (fun _ _ _ _ h9 => h9) hf (by decide) rfl dX4_fillTable_51  (fun v12 hf => ?_)
    refine z_iload_n 1 dX4_fillTable_54 rfl rfl ?_
    refine z_aI hf dX4_fillTable_55  (fun v13 hf => ?_)
    refine z_aload_n 0 dX4_fillTable_56 rfl rfl ?_
    refine z_gP (ci := 4) (k := 2) (C := RX4) (T := TX4) (N := 12) rfl inlX4 (by decide) mw_5_0 (fun _ _ _ _ h9 => h9) hf (by decide) rfl dX4_fillTable_57  (fun v14 hf => ?_)
    refine z_iload_n 2 dX4_fillTable_60 rfl rfl ?_
    refine z_aI hf dX4_fillTable_61  (fun v15 hf => ?_)
    obtain ⟨v16, ev16, hf⟩ := ob hf
    refine z_cVi (ci := 10) (T := TX10) (N := 6) (As := [.int v13, .int v15]) (rest := [.int l2, .ref v10]) (zm_X10_between ev16).2 (zm_X10_between ev16).1 (by decide) rfl (Or.inl rfl) mw_41_11 mw_17_12 mw_17_13 mw_1_23 mw_17_14 yk_X10_between (by decide) (by decide) rfl (Nat.le_of_ble_eq_true rfl) rfl dX4_fillTable_62 ?_
    refine z_sI hf dX4_fillTable_65  (fun d17 hf => ?_)
    refine z_iinc [(2, .int (l2 + 1)), (0, .ref l0), (1, .int l1)] 2 (l2 + 1) dX4_fillTable_66 rfl rfl (by decide) rfl ?_
    refine z_goto 31 dX4_fillTable_69 (by decide) ?_
    refine z_lv [(0, .ref l0), (1, .int l1), (2, .int (l2 + 1))] [1, 2, 0] rfl ?_
    exact hk31 _ _ _ _ hf
set_option maxRecDepth 20000 in
theorem zb_X4_fillTable_31 {N : Nat} {k19 : Nat → Int32 → AS → Option AS} {r : AS} {E : EV} (hE : TG E none r) (hk19 : ∀ (l0 : Nat) (l1 : Int32) (s : AS), k19 l0 l1 s = some r → Z E yX4_fillTable cX4_fillTable 3 none 4 s 19 [(0, .ref l0), (1, .int l1)] []) : ∀ (n : Nat) (l0 : Nat) (l1 : Int32) (l2 : Int32) (s : AS), f_X4_fillTable_31 N k19 n l0 l1 l2 s = some r → Z E yX4_fillTable cX4_fillTable 3 none 4 s 31 [(0, .ref l0), (1, .int l1), (2, .int l2)] [] := by
  intro n
  induction n with
  | zero => intro l0 l1 l2 s hf; cases hf
  | succ n ih => intro l0 l1 l2 s hf; exact zg_X4_fillTable_31 hE hk19 ih hf
set_option maxRecDepth 20000 in
theorem lg_X4_fillTable_19 {N : Nat} {r : AS} {k19 : Nat → Int32 → AS → Option AS}  (hk19 : ∀ (l0 : Nat) (l1 : Int32) (s : AS), k19 l0 l1 s = some r → Le s r) {l0 : Nat} {l1 : Int32} {s : AS} (hf : g_X4_fillTable_19 N k19 l0 l1 s = some r) : Le s r := by
  unfold g_X4_fillTable_19 at hf
  obtain ⟨v3, -, hf⟩ := ob hf
  split at hf
  · exact Le.via (le_X4_fillTable_78 hf) rfl
  · exact Le.via (le_X4_fillTable_31 hk19 N _ _ _ _ hf) rfl
set_option maxRecDepth 20000 in
theorem le_X4_fillTable_19 {N : Nat} {r : AS}  : ∀ (n : Nat) (l0 : Nat) (l1 : Int32) (s : AS), f_X4_fillTable_19 N n l0 l1 s = some r → Le s r := by
  intro n
  induction n with
  | zero => intro l0 l1 s hf; cases hf
  | succ n ih => intro l0 l1 s hf; exact lg_X4_fillTable_19 ih hf
set_option maxRecDepth 20000 in
theorem zg_X4_fillTable_19 {N : Nat} {r : AS} {k19 : Nat → Int32 → AS → Option AS} {E : EV} (hE : TG E none r)  (hk19 : ∀ (l0 : Nat) (l1 : Int32) (s : AS), k19 l0 l1 s = some r → Z E yX4_fillTable cX4_fillTable 3 none 4 s 19 [(0, .ref l0), (1, .int l1)] []) {l0 : Nat} {l1 : Int32} {s : AS} (hf : g_X4_fillTable_19 N k19 l0 l1 s = some r) : Z E yX4_fillTable cX4_fillTable 3 none 4 s 19 [(0, .ref l0), (1, .int l1)] [] := by
  unfold g_X4_fillTable_19 at hf
  refine z_iload_n 1 dX4_fillTable_19 rfl rfl ?_
  refine z_aload_n 0 dX4_fillTable_20 rfl rfl ?_
  refine z_gI (ci := 4) (k := 3) (C := RX4) (T := TX4) (N := 12) rfl inlX4 (by decide) mw_5_1 (fun _ _ _ _ h9 => h9) hf (by decide) rfl dX4_fillTable_21  (fun v3 hf => ?_)
  refine z_icmp_ge 78 hf dX4_fillTable_24 (by decide) (fun hf => ?_) (fun hf => ?_)
  · refine z_lv [(0, .ref l0)] [0] rfl ?_
    exact zb_X4_fillTable_78 hE hf
  · refine z_iload_n 1 dX4_fillTable_27 rfl rfl ?_
    refine z_iconst 1 1 dX4_fillTable_28 (by decide) ?_
    refine z_iadd dX4_fillTable_29 ?_
    refine z_istore_n [(2, .int (l1 + (1 : Int32))), (0, .ref l0), (1, .int l1)] dX4_fillTable_30 rfl (by decide) rfl ?_
    refine z_lv [(0, .ref l0), (1, .int l1), (2, .int (l1 + (1 : Int32)))] [1, 2, 0] rfl ?_
    exact zb_X4_fillTable_31 hE hk19 N _ _ _ _ hf
set_option maxRecDepth 20000 in
theorem zb_X4_fillTable_19 {N : Nat} {r : AS} {E : EV} (hE : TG E none r)  : ∀ (n : Nat) (l0 : Nat) (l1 : Int32) (s : AS), f_X4_fillTable_19 N n l0 l1 s = some r → Z E yX4_fillTable cX4_fillTable 3 none 4 s 19 [(0, .ref l0), (1, .int l1)] [] := by
  intro n
  induction n with
  | zero => intro l0 l1 s hf; cases hf
  | succ n ih => intro l0 l1 s hf; exact zg_X4_fillTable_19 hE ih hf
set_option maxRecDepth 20000 in
theorem lm_X4_fillTable {N : Nat} {s : AS} {l0 : Nat} {r : AS} (hf : f_X4_fillTable N l0 s = some r) : Le s r := by
  unfold f_X4_fillTable at hf
  split at hf
  · skip
    obtain ⟨v1, -, hf⟩ := ob hf
    split at hf
    · exact Le.via (le_X4_fillTable_16 hf) rfl
    · obtain ⟨v2, -, hf⟩ := ob hf
      split at hf
      · exact Le.via (le_X4_fillTable_19 N _ _ _ hf) rfl
      · exact Le.via (le_X4_fillTable_16 hf) rfl
  · cases hf
set_option maxRecDepth 20000 in
theorem zm_X4_fillTable {N : Nat} {s : AS} {l0 : Nat} {r : AS} (hf : f_X4_fillTable N l0 s = some r) : isO s.1 l0 4 ∧ ∀ (l : Launch) (G : GG), Mt l G yX4_fillTable cX4_fillTable 3 none 4 [.ref l0] s none r := by
  have hf0 := hf
  unfold f_X4_fillTable at hf
  split at hf
  · rename_i hO
    refine ⟨hO, fun l G => mt_of (Or.inl (by decide)) (Nat.le_of_ble_eq_true rfl) (lm_X4_fillTable hf0) (fun E hE => ?_)⟩
    show Z E yX4_fillTable cX4_fillTable 3 none 4 s 0 [(0, .ref l0)] []
    refine z_aload_n 0 dX4_fillTable_0 rfl rfl ?_
    refine z_gI (ci := 4) (k := 7) (C := RX4) (T := TX4) (N := 12) rfl inlX4 (by decide) mw_5_6 (fun _ _ _ _ h9 => h9) hf (by decide) rfl dX4_fillTable_1  (fun v1 hf => ?_)
    refine z_if_ne 16 hf dX4_fillTable_4 (by decide) (fun hf => ?_) (fun hf => ?_)
    · refine z_lv [] [] rfl ?_
      exact zb_X4_fillTable_16 hE hf
    · refine z_aload_n 0 dX4_fillTable_7 rfl rfl ?_
      refine z_gI (ci := 4) (k := 3) (C := RX4) (T := TX4) (N := 12) rfl inlX4 (by decide) mw_5_1 (fun _ _ _ _ h9 => h9) hf (by decide) rfl dX4_fillTable_8  (fun v2 hf => ?_)
      refine z_bipush 14 14 dX4_fillTable_11 (by decide) ?_
      refine z_icmp_le 17 hf dX4_fillTable_13 (by decide) (fun hf => ?_) (fun hf => ?_)
      · refine z_iconst 0 0 dX4_fillTable_17 (by decide) ?_
        refine z_istore_n [(1, .int (0 : Int32)), (0, .ref l0)] dX4_fillTable_18 rfl (by decide) rfl ?_
        refine z_lv [(0, .ref l0), (1, .int (0 : Int32))] [1, 0] rfl ?_
        exact zb_X4_fillTable_19 hE N _ _ _ hf
      · refine z_lv [] [] rfl ?_
        exact zb_X4_fillTable_16 hE hf
  · cases hf
set_option maxRecDepth 20000 in
theorem zb_X4_leastOf_24 {N : Nat} {sh : Sh} {d : Dt} {r : Int32} {E : EV} (hE : TG E (some (.int r)) (sh, d))  {t0 : Int32} (hf : f_X4_leastOf_24 N sh t0 d = some r) : Z E yX4_leastOf cX4_leastOf 2 (some .int) 1 (sh, d) 24 [] [.int t0] := by
  unfold f_X4_leastOf_24 at hf
  cases hf
  exact z_ireturn hE rfl dX4_leastOf_24
set_option maxRecDepth 20000 in
theorem zb_X4_leastOf_22 {N : Nat} {sh : Sh} {d : Dt} {r : Int32} {E : EV} (hE : TG E (some (.int r)) (sh, d))   (hf : f_X4_leastOf_22 N sh  d = some r) : Z E yX4_leastOf cX4_leastOf 2 (some .int) 1 (sh, d) 22 [] [] := by
  unfold f_X4_leastOf_22 at hf
  refine z_ldc mw_41_10 dX4_leastOf_22 ?_
  exact zb_X4_leastOf_24 hE hf
set_option maxRecDepth 20000 in
theorem zm_X4_leastOf {N : Nat} {sh : Sh} {d : Dt} {l0 : Nat} {l1 : Int32} {r : Int32} (hf : f_X4_leastOf N sh l0 l1 d = some r) : isO sh l0 4 ∧ ∀ (l : Launch) (G : GG), Mt l G yX4_leastOf cX4_leastOf 2 (some .int) 1 [.ref l0, .int l1] (sh, d) (some (.int r)) (sh, d) := by
  have hf0 := hf
  unfold f_X4_leastOf at hf
  split at hf
  · rename_i hO
    refine ⟨hO, fun l G => mt_of (Or.inl (by decide)) (Nat.le_of_ble_eq_true rfl) Le.rf (fun E hE => ?_)⟩
    show Z E yX4_leastOf cX4_leastOf 2 (some .int) 1 (sh, d) 0 [(0, .ref l0), (1, .int l1)] []
    refine z_iload_n 1 dX4_leastOf_0 rfl rfl ?_
    refine z_if_lt 22 hf dX4_leastOf_1 (by decide) (fun hf => ?_) (fun hf => ?_)
    · refine z_lv [] [] rfl ?_
      exact zb_X4_leastOf_22 hE hf
    · refine z_iload_n 1 dX4_leastOf_4 rfl rfl ?_
      refine z_aload_n 0 dX4_leastOf_5 rfl rfl ?_
      refine z_gQ (ci := 4) (k := 6) (C := RX4) (T := TX4) (N := 12) rfl inlX4 (by decide) mw_5_5 (fun _ _ _ _ h9 => h9) hf (by decide) rfl dX4_leastOf_6  (fun v1 hf => ?_)
      refine z_aLen hf dX4_leastOf_9  (fun v2 hf => ?_)
      refine z_icmp_ge 22 hf dX4_leastOf_10 (by decide) (fun hf => ?_) (fun hf => ?_)
      · refine z_lv [] [] rfl ?_
        exact zb_X4_leastOf_22 hE hf
      · refine z_aload_n 0 dX4_leastOf_13 rfl rfl ?_
        refine z_gQ (ci := 4) (k := 6) (C := RX4) (T := TX4) (N := 12) rfl inlX4 (by decide) mw_5_5 (fun _ _ _ _ h9 => h9) hf (by decide) rfl dX4_leastOf_14  (fun v3 hf => ?_)
        refine z_iload_n 1 dX4_leastOf_17 rfl rfl ?_
        refine z_aI hf dX4_leastOf_18  (fun v4 hf => ?_)
        refine z_goto 24 dX4_leastOf_19 (by decide) ?_
        refine z_lv [] [] rfl ?_
        exact zb_X4_leastOf_24 hE hf
  · cases hf
set_option maxRecDepth 20000 in
theorem le_X11_least_35 {N : Nat} {r : Int32 × AS}  {l0 : Nat} {s : AS} (hf : f_X11_least_35 N l0 s = some r) : Le s r.2 := by
  unfold f_X11_least_35 at hf
  obtain ⟨v11, -, hf⟩ := ob hf
  cases hf
  exact Le.rf
set_option maxRecDepth 20000 in
theorem zb_X11_least_35 {N : Nat} {r : Int32 × AS} {E : EV} (hE : TG E (some (.int r.1)) r.2)  {l0 : Nat} {s : AS} (hf : f_X11_least_35 N l0 s = some r) : Z E yX11_least cX11_least 4 (some .int) 6 s 35 [(0, .ref l0)] [] := by
  unfold f_X11_least_35 at hf
  refine z_aload_n 0 dX11_least_35 rfl rfl ?_
  refine z_bipush (-2) (-2) dX11_least_36 (by decide) ?_
  obtain ⟨v11, ev11, hf⟩ := ob hf
  refine z_cVi (ci := 11) (T := TX11) (N := 14) (As := [.int (-2 : Int32)]) (rest := []) (zm_X11_refuse ev11).2 (zm_X11_refuse ev11).1 (by decide) rfl (Or.inl rfl) mw_7_22 mw_7_23 mw_8_0 mw_1_2 mw_8_1 yk_X11_refuse (by decide) (by decide) rfl (Nat.le_of_ble_eq_true rfl) rfl dX11_least_38 ?_
  cases hf
  exact z_ireturn hE rfl dX11_least_41
set_option maxRecDepth 20000 in
theorem le_X11_least_92 {N : Nat} {r : Int32 × AS}  {t0 : Int32} {s : AS} (hf : f_X11_least_92 N t0 s = some r) : Le s r.2 := by
  unfold f_X11_least_92 at hf
  cases hf
  exact Le.rf
set_option maxRecDepth 20000 in
theorem zb_X11_least_92 {N : Nat} {r : Int32 × AS} {E : EV} (hE : TG E (some (.int r.1)) r.2)  {t0 : Int32} {s : AS} (hf : f_X11_least_92 N t0 s = some r) : Z E yX11_least cX11_least 4 (some .int) 6 s 92 [] [.int t0] := by
  unfold f_X11_least_92 at hf
  cases hf
  exact z_ireturn hE rfl dX11_least_92
set_option maxRecDepth 20000 in
theorem le_X11_least_63 {N : Nat} {r : Int32 × AS}  {l0 : Nat} {l1 : Int32} {s : AS} (hf : f_X11_least_63 N l0 l1 s = some r) : Le s r.2 := by
  unfold f_X11_least_63 at hf
  obtain ⟨v12, -, hf⟩ := ob hf
  obtain ⟨v13, -, hf⟩ := ob hf
  split at hf
  · obtain ⟨v14, -, hf⟩ := ob hf
    exact Le.via (le_X11_least_92 hf) rfl
  · obtain ⟨v15, -, hf⟩ := ob hf
    exact Le.via (le_X11_least_92 hf) rfl
set_option maxRecDepth 20000 in
theorem zb_X11_least_63 {N : Nat} {r : Int32 × AS} {E : EV} (hE : TG E (some (.int r.1)) r.2)  {l0 : Nat} {l1 : Int32} {s : AS} (hf : f_X11_least_63 N l0 l1 s = some r) : Z E yX11_least cX11_least 4 (some .int) 6 s 63 [(0, .ref l0), (1, .int l1)] [] := by
  unfold f_X11_least_63 at hf
  refine z_aload_n 0 dX11_least_63 rfl rfl ?_
  refine z_gP (ci := 11) (k := 4) (C := RX11) (T := TX11) (N := 14) rfl inlX11 (by decide) mw_2_4 (fun _ _ _ _ h9 => h9) hf (by decide) rfl dX11_least_64  (fun v12 hf => ?_)
  refine z_iload_n 1 dX11_least_67 rfl rfl ?_
  obtain ⟨v13, ev13, hf⟩ := ob hf
  refine z_cVi (ci := 4) (T := TX4) (N := 12) (As := [.int l1]) (rest := []) (zm_X4_leastOf ev13).2 (zm_X4_leastOf ev13).1 (by decide) rfl (Or.inl rfl) mw_42_0 mw_42_1 mw_42_2 mw_2_3 mw_42_3 yk_X4_leastOf (by decide) (by decide) rfl (Nat.le_of_ble_eq_true rfl) rfl dX11_least_68 ?_
  refine z_istore_n [(3, .int v13), (0, .ref l0), (1, .int l1)] dX11_least_71 rfl (by decide) rfl ?_
  refine z_iload_n 0 dX11_least_72 rfl rfl ?_
  refine z_ldc mw_15_19 dX11_least_73 ?_
  refine z_icmp_lt 87 hf dX11_least_75 (by decide) (fun hf => ?_) (fun hf => ?_)
  · refine z_aload_n 1 dX11_least_87 rfl rfl ?_
    refine z_iload_n 0 dX11_least_88 rfl rfl ?_
    obtain ⟨v14, ev14, hf⟩ := ob hf
    refine z_cVi (ci := 11) (T := TX11) (N := 14) (As := [.int v13]) (rest := []) (zm_X11_answer ev14).2 (zm_X11_answer ev14).1 (by decide) rfl (Or.inl rfl) mw_11_2 mw_11_3 mw_11_4 mw_1_2 mw_11_5 yk_X11_answer (by decide) (by decide) rfl (Nat.le_of_ble_eq_true rfl) rfl dX11_least_89 ?_
    refine z_lv [] [] rfl ?_
    exact zb_X11_least_92 hE hf
  · refine z_aload_n 1 dX11_least_78 rfl rfl ?_
    refine z_bipush (-8) (-8) dX11_least_79 (by decide) ?_
    obtain ⟨v15, ev15, hf⟩ := ob hf
    refine z_cVi (ci := 11) (T := TX11) (N := 14) (As := [.int (-8 : Int32)]) (rest := []) (zm_X11_refuse ev15).2 (zm_X11_refuse ev15).1 (by decide) rfl (Or.inl rfl) mw_7_22 mw_7_23 mw_8_0 mw_1_2 mw_8_1 yk_X11_refuse (by decide) (by decide) rfl (Nat.le_of_ble_eq_true rfl) rfl dX11_least_81 ?_
    refine z_goto 92 dX11_least_84 (by decide) ?_
    refine z_lv [] [] rfl ?_
    exact zb_X11_least_92 hE hf
set_option maxRecDepth 20000 in
theorem lm_X11_least {N : Nat} {s : AS} {l0 : Nat} {l1 : Int32} {r : Int32 × AS} (hf : f_X11_least N l0 l1 s = some r) : Le s r.2 := by
  unfold f_X11_least at hf
  split at hf
  · skip
    obtain ⟨v1, -, hf⟩ := ob hf
    obtain ⟨v2, -, hf⟩ := ob hf
    split at hf
    · exact Le.via (le_X11_least_35 hf) rfl
    · obtain ⟨v3, -, hf⟩ := ob hf
      obtain ⟨v4, -, hf⟩ := ob hf
      split at hf
      · exact Le.via (le_X11_least_35 hf) rfl
      · split at hf
        · exact Le.via (le_X11_least_35 hf) rfl
        · split at hf
          · obtain ⟨v5, -, hf⟩ := ob hf
            obtain ⟨v6, -, hf⟩ := ob hf
            obtain ⟨v7, -, hf⟩ := ob hf
            obtain ⟨v8, -, hf⟩ := ob hf
            obtain ⟨v9, -, hf⟩ := ob hf
            obtain ⟨v10, ev10, hf⟩ := ob hf
            refine Le.of (t := (s.1, v8)) rfl ((lm_X4_fillTable ev10).tr ?_)
            exact Le.via (le_X11_least_63 hf) rfl
          · exact Le.via (le_X11_least_35 hf) rfl
  · cases hf
set_option maxRecDepth 20000 in
theorem zm_X11_least {N : Nat} {s : AS} {l0 : Nat} {l1 : Int32} {r : Int32 × AS} (hf : f_X11_least N l0 l1 s = some r) : isO s.1 l0 11 ∧ ∀ (l : Launch) (G : GG), Mt l G yX11_least cX11_least 4 (some .int) 6 [.ref l0, .int l1] s (some (.int r.1)) r.2 := by
  have hf0 := hf
  unfold f_X11_least at hf
  split at hf
  · rename_i hO
    refine ⟨hO, fun l G => mt_of (Or.inl (by decide)) (Nat.le_of_ble_eq_true rfl) (lm_X11_least hf0) (fun E hE => ?_)⟩
    show Z E yX11_least cX11_least 4 (some .int) 6 s 0 [(0, .ref l0), (1, .int l1)] []
    refine z_aload_n 0 dX11_least_0 rfl rfl ?_
    refine z_gP (ci := 11) (k := 4) (C := RX11) (T := TX11) (N := 14) rfl inlX11 (by decide) mw_2_4 (fun _ _ _ _ h9 => h9) hf (by decide) rfl dX11_least_1  (fun v1 hf => ?_)
    obtain ⟨v2, ev2, hf⟩ := ob hf
    refine z_cVi (ci := 4) (T := TX4) (N := 12) (As := []) (rest := []) (zm_X4_list ev2).2 (zm_X4_list ev2).1 (by decide) rfl (Or.inl rfl) mw_39_9 mw_39_10 mw_39_11 mw_2_3 mw_39_12 yk_X4_list (by decide) (by decide) rfl (Nat.le_of_ble_eq_true rfl) rfl dX11_least_4 ?_
    refine z_istore_n [(2, .int v2.1), (0, .ref l0), (1, .int l1)] dX11_least_7 rfl (by decide) rfl ?_
    refine z_iload_n 0 dX11_least_8 rfl rfl ?_
    refine z_bipush 14 14 dX11_least_9 (by decide) ?_
    refine z_icmp_gt 35 hf dX11_least_11 (by decide) (fun hf => ?_) (fun hf => ?_)
    · refine z_lv [(0, .ref l0)] [1] rfl ?_
      exact zb_X11_least_35 hE hf
    · refine z_aload_n 1 dX11_least_14 rfl rfl ?_
      refine z_gP (ci := 11) (k := 1) (C := RX11) (T := TX11) (N := 14) rfl inlX11 (by decide) mw_1_19 (fun _ _ _ _ h9 => h9) hf (by decide) rfl dX11_least_15  (fun v3 hf => ?_)
      obtain ⟨v4, ev4, hf⟩ := ob hf
      refine z_cVi (ci := 1) (T := TX1) (N := 8) (As := []) (rest := []) (zm_X1_hasOneWay ev4).2 (zm_X1_hasOneWay ev4).1 (by decide) rfl (Or.inl rfl) mw_41_1 mw_41_2 mw_41_3 mw_1_18 mw_41_4 yk_X1_hasOneWay (by decide) (by decide) rfl (Nat.le_of_ble_eq_true rfl) rfl dX11_least_18 ?_
      refine z_if_ne 35 hf dX11_least_21 (by decide) (fun hf => ?_) (fun hf => ?_)
      · refine z_lv [(0, .ref l0)] [1] rfl ?_
        exact zb_X11_least_35 hE hf
      · refine z_iload_n 2 dX11_least_24 rfl rfl ?_
        refine z_if_lt 35 hf dX11_least_25 (by decide) (fun hf => ?_) (fun hf => ?_)
        · refine z_lv [(0, .ref l0)] [1] rfl ?_
          exact zb_X11_least_35 hE hf
        · refine z_iload_n 2 dX11_least_28 rfl rfl ?_
          refine z_iconst 1 1 dX11_least_29 (by decide) ?_
          refine z_iload_n 0 dX11_least_30 rfl rfl ?_
          refine z_ishl dX11_least_31 ?_
          refine z_icmp_lt 42 hf dX11_least_32 (by decide) (fun hf => ?_) (fun hf => ?_)
          · refine z_aload_n 1 dX11_least_42 rfl rfl ?_
            refine z_gP (ci := 11) (k := 3) (C := RX11) (T := TX11) (N := 14) rfl inlX11 (by decide) mw_2_0 (fun _ _ _ _ h9 => h9) hf (by decide) rfl dX11_least_43  (fun v5 hf => ?_)
            refine z_aload_n 1 dX11_least_46 rfl rfl ?_
            refine z_gP (ci := 11) (k := 4) (C := RX11) (T := TX11) (N := 14) rfl inlX11 (by decide) mw_2_4 (fun _ _ _ _ h9 => h9) hf (by decide) rfl dX11_least_47  (fun v6 hf => ?_)
            obtain ⟨v7, ev7, hf⟩ := ob hf
            refine z_cVl (ci := 4) (T := TX4) (N := 12) (As := []) (rest := [.ref v5]) (zm_X4_oddBits ev7).2 (zm_X4_oddBits ev7).1 (by decide) rfl (Or.inl rfl) mw_41_5 mw_39_14 mw_39_15 mw_2_3 mw_39_16 yk_X4_oddBits (by decide) (by decide) rfl (Nat.le_of_ble_eq_true rfl) rfl dX11_least_50 ?_
            obtain ⟨v8, ev8, hf⟩ := ob hf
            refine z_cVv (ci := 10) (T := TX10) (N := 6) (As := [.long v7]) (rest := []) (zm_X10_measureEach ev8).2 (zm_X10_measureEach ev8).1 (by decide) rfl (Or.inl rfl) mw_15_20 mw_15_21 mw_15_22 mw_1_23 mw_15_23 yk_X10_measureEach (by decide) (by decide) rfl (Nat.le_of_ble_eq_true rfl) rfl dX11_least_53 ?_
            refine z_aload_n 1 dX11_least_56 rfl rfl ?_
            refine z_gP (ci := 11) (k := 4) (C := RX11) (T := TX11) (N := 14) rfl inlX11 (by decide) mw_2_4 (fun _ _ _ _ h9 => h9) hf (by decide) rfl dX11_least_57  (fun v9 hf => ?_)
            obtain ⟨v10, ev10, hf⟩ := ob hf
            refine z_cVv (ci := 4) (T := TX4) (N := 12) (As := []) (rest := []) (zm_X4_fillTable ev10).2 (zm_X4_fillTable ev10).1 (by decide) rfl (Or.inr (tg_le hE (le_X11_least_63 hf))) mw_41_6 mw_41_7 mw_41_8 mw_2_3 mw_41_9 yk_X4_fillTable (by decide) (by decide) rfl (Nat.le_of_ble_eq_true rfl) rfl dX11_least_60 ?_
            refine z_lv [(0, .ref l0), (1, .int l1)] [1, 2] rfl ?_
            exact zb_X11_least_63 hE hf
          · refine z_lv [(0, .ref l0)] [1] rfl ?_
            exact zb_X11_least_35 hE hf
  · cases hf
set_option maxRecDepth 20000 in
theorem zb_X11_length_10 {N : Nat} {sh : Sh} {r : Int32 × Dt} {E : EV} (hE : TG E (some (.int r.1)) (sh, r.2))  {l0 : Nat} {d : Dt} (hf : f_X11_length_10 N sh l0 d = some r) : Z E yX11_length cX11_length 2 (some .int) 3 (sh, d) 10 [(0, .ref l0)] [] := by
  unfold f_X11_length_10 at hf
  refine z_aload_n 0 dX11_length_10 rfl rfl ?_
  refine z_bipush (-2) (-2) dX11_length_11 (by decide) ?_
  obtain ⟨v5, ev5, hf⟩ := ob hf
  refine z_cVi (ci := 11) (T := TX11) (N := 14) (As := [.int (-2 : Int32)]) (rest := []) (zm_X11_refuse ev5).2 (zm_X11_refuse ev5).1 (by decide) rfl (Or.inl rfl) mw_7_22 mw_7_23 mw_8_0 mw_1_2 mw_8_1 yk_X11_refuse (by decide) (by decide) rfl (Nat.le_of_ble_eq_true rfl) rfl dX11_length_13 ?_
  cases hf
  exact z_ireturn hE rfl dX11_length_16
set_option maxRecDepth 20000 in
theorem zm_X11_length {N : Nat} {sh : Sh} {d : Dt} {l0 : Nat} {l1 : Int32} {r : Int32 × Dt} (hf : f_X11_length N sh l0 l1 d = some r) : isO sh l0 11 ∧ ∀ (l : Launch) (G : GG), Mt l G yX11_length cX11_length 2 (some .int) 3 [.ref l0, .int l1] (sh, d) (some (.int r.1)) (sh, r.2) := by
  have hf0 := hf
  unfold f_X11_length at hf
  split at hf
  · rename_i hO
    refine ⟨hO, fun l G => mt_of (Or.inl (by decide)) (Nat.le_of_ble_eq_true rfl) Le.rf (fun E hE => ?_)⟩
    show Z E yX11_length cX11_length 2 (some .int) 3 (sh, d) 0 [(0, .ref l0), (1, .int l1)] []
    refine z_iload_n 1 dX11_length_0 rfl rfl ?_
    refine z_if_lt 10 hf dX11_length_1 (by decide) (fun hf => ?_) (fun hf => ?_)
    · refine z_lv [(0, .ref l0)] [0] rfl ?_
      exact zb_X11_length_10 hE hf
    · refine z_iload_n 1 dX11_length_4 rfl rfl ?_
      refine z_bipush 7 7 dX11_length_5 (by decide) ?_
      refine z_icmp_lt 17 hf dX11_length_7 (by decide) (fun hf => ?_) (fun hf => ?_)
      · refine z_aload_n 0 dX11_length_17 rfl rfl ?_
        refine z_aload_n 0 dX11_length_18 rfl rfl ?_
        refine z_gP (ci := 11) (k := 1) (C := RX11) (T := TX11) (N := 14) rfl inlX11 (by decide) mw_1_19 (fun _ _ _ _ h9 => h9) hf (by decide) rfl dX11_length_19  (fun v1 hf => ?_)
        refine z_gP (ci := 1) (k := 5) (C := RX1) (T := TX1) (N := 8) rfl inlX1 (by decide) mw_52_5 (fun _ _ _ _ h9 => h9) hf (by decide) rfl dX11_length_22  (fun v2 hf => ?_)
        refine z_iload_n 1 dX11_length_25 rfl rfl ?_
        refine z_aI hf dX11_length_26  (fun v3 hf => ?_)
        obtain ⟨v4, ev4, hf⟩ := ob hf
        refine z_cVi (ci := 11) (T := TX11) (N := 14) (As := [.int v3]) (rest := []) (zm_X11_answer ev4).2 (zm_X11_answer ev4).1 (by decide) rfl (Or.inl rfl) mw_11_2 mw_11_3 mw_11_4 mw_1_2 mw_11_5 yk_X11_answer (by decide) (by decide) rfl (Nat.le_of_ble_eq_true rfl) rfl dX11_length_27 ?_
        cases hf
        exact z_ireturn hE rfl dX11_length_30
      · refine z_lv [(0, .ref l0)] [0] rfl ?_
        exact zb_X11_length_10 hE hf
  · cases hf
set_option maxRecDepth 20000 in
theorem zm_X11_looks {N : Nat} {sh : Sh} {d : Dt} {l0 : Nat} {r : Int32} (hf : f_X11_looks N sh l0 d = some r) : isO sh l0 11 ∧ ∀ (l : Launch) (G : GG), Mt l G yX11_looks cX11_looks 1 (some .int) 1 [.ref l0] (sh, d) (some (.int r)) (sh, d) := by
  have hf0 := hf
  unfold f_X11_looks at hf
  split at hf
  · rename_i hO
    refine ⟨hO, fun l G => mt_of (Or.inl (by decide)) (Nat.le_of_ble_eq_true rfl) Le.rf (fun E hE => ?_)⟩
    show Z E yX11_looks cX11_looks 1 (some .int) 1 (sh, d) 0 [(0, .ref l0)] []
    refine z_aload_n 0 dX11_looks_0 rfl rfl ?_
    refine z_gP (ci := 11) (k := 0) (C := RX11) (T := TX11) (N := 14) rfl inlX11 (by decide) mw_1_15 (fun _ _ _ _ h9 => h9) hf (by decide) rfl dX11_looks_1  (fun v1 hf => ?_)
    refine z_gI (ci := 2) (k := 3) (C := RX2) (T := TX2) (N := 4) rfl inlX2 (by decide) mw_54_3 (fun _ _ _ _ h9 => h9) hf (by decide) rfl dX11_looks_4  (fun v2 hf => ?_)
    cases hf
    exact z_ireturn hE rfl dX11_looks_7
  · cases hf
set_option maxRecDepth 20000 in
theorem le_X11_lose_57 {N : Nat} {r : Int32 × AS}  {t0 : Nat} {t1 : Int32} {s : AS} (hf : f_X11_lose_57 N t0 t1 s = some r) : Le s r.2 := by
  unfold f_X11_lose_57 at hf
  obtain ⟨v11, -, hf⟩ := ob hf
  cases hf
  exact Le.rf
set_option maxRecDepth 20000 in
theorem zb_X11_lose_57 {N : Nat} {r : Int32 × AS} {E : EV} (hE : TG E (some (.int r.1)) r.2)  {t0 : Nat} {t1 : Int32} {s : AS} (hf : f_X11_lose_57 N t0 t1 s = some r) : Z E yX11_lose cX11_lose 3 (some .int) 6 s 57 [] [.int t1, .ref t0] := by
  unfold f_X11_lose_57 at hf
  obtain ⟨v11, ev11, hf⟩ := ob hf
  refine z_cVi (ci := 11) (T := TX11) (N := 14) (As := [.int t1]) (rest := []) (zm_X11_answer ev11).2 (zm_X11_answer ev11).1 (by decide) rfl (Or.inl rfl) mw_11_2 mw_11_3 mw_11_4 mw_1_2 mw_11_5 yk_X11_answer (by decide) (by decide) rfl (Nat.le_of_ble_eq_true rfl) rfl dX11_lose_57 ?_
  cases hf
  exact z_ireturn hE rfl dX11_lose_60
set_option maxRecDepth 20000 in
theorem le_X11_lose_34 {N : Nat} {r : Int32 × AS}  {l0 : Nat} {l1 : Int32} {l2 : Int32} {s : AS} (hf : f_X11_lose_34 N l0 l1 l2 s = some r) : Le s r.2 := by
  unfold f_X11_lose_34 at hf
  obtain ⟨v8, -, hf⟩ := ob hf
  obtain ⟨v9, -, hf⟩ := ob hf
  obtain ⟨v10, -, hf⟩ := ob hf
  split at hf
  · exact Le.via (le_X11_lose_57 hf) rfl
  · exact Le.via (le_X11_lose_57 hf) rfl
set_option maxRecDepth 20000 in
theorem zb_X11_lose_34 {N : Nat} {r : Int32 × AS} {E : EV} (hE : TG E (some (.int r.1)) r.2)  {l0 : Nat} {l1 : Int32} {l2 : Int32} {s : AS} (hf : f_X11_lose_34 N l0 l1 l2 s = some r) : Z E yX11_lose cX11_lose 3 (some .int) 6 s 34 [(0, .ref l0), (1, .int l1), (2, .int l2)] [] := by
  unfold f_X11_lose_34 at hf
  refine z_aload_n 0 dX11_lose_34 rfl rfl ?_
  refine z_gP (ci := 11) (k := 1) (C := RX11) (T := TX11) (N := 14) rfl inlX11 (by decide) mw_1_19 (fun _ _ _ _ h9 => h9) hf (by decide) rfl dX11_lose_35  (fun v8 hf => ?_)
  refine z_gP (ci := 1) (k := 2) (C := RX1) (T := TX1) (N := 8) rfl inlX1 (by decide) mw_19_21 (fun _ _ _ _ h9 => h9) hf (by decide) rfl dX11_lose_38  (fun v9 hf => ?_)
  refine z_iload_n 1 dX11_lose_41 rfl rfl ?_
  refine z_iconst 2 2 dX11_lose_42 (by decide) ?_
  refine z_iconst (-1) (-1) dX11_lose_43 (by decide) ?_
  obtain ⟨v10, ev10, hf⟩ := ob hf
  refine z_cVv (ci := 8) (T := TX8) (N := 2) (As := [.int l1, .int (2 : Int32), .int (-1 : Int32)]) (rest := []) (zm_X8_put ev10).2 (zm_X8_put ev10).1 (by decide) rfl (Or.inl rfl) mw_12_22 mw_12_23 mw_13_0 mw_3_13 mw_13_1 yk_X8_put (by decide) (by decide) rfl (Nat.le_of_ble_eq_true rfl) rfl dX11_lose_44 ?_
  refine z_aload_n 0 dX11_lose_47 rfl rfl ?_
  refine z_iload_n 2 dX11_lose_48 rfl rfl ?_
  refine z_if_eq 56 hf dX11_lose_49 (by decide) (fun hf => ?_) (fun hf => ?_)
  · refine z_iconst 1 1 dX11_lose_56 (by decide) ?_
    refine z_lv [] [] rfl ?_
    exact zb_X11_lose_57 hE hf
  · refine z_iconst 0 0 dX11_lose_52 (by decide) ?_
    refine z_goto 57 dX11_lose_53 (by decide) ?_
    refine z_lv [] [] rfl ?_
    exact zb_X11_lose_57 hE hf
set_option maxRecDepth 20000 in
theorem lm_X11_lose {N : Nat} {s : AS} {l0 : Nat} {l1 : Int32} {r : Int32 × AS} (hf : f_X11_lose N l0 l1 s = some r) : Le s r.2 := by
  unfold f_X11_lose at hf
  split at hf
  · skip
    obtain ⟨v1, -, hf⟩ := ob hf
    obtain ⟨v2, -, hf⟩ := ob hf
    obtain ⟨v3, -, hf⟩ := ob hf
    split at hf
    · obtain ⟨v4, -, hf⟩ := ob hf
      obtain ⟨v5, -, hf⟩ := ob hf
      obtain ⟨v6, ev6, hf⟩ := ob hf
      refine Le.of (t := (s.1, s.2)) rfl ((lm_X11_change ev6).tr ?_)
      exact Le.via (le_X11_lose_34 hf) rfl
    · obtain ⟨v7, -, hf⟩ := ob hf
      cases hf
      exact Le.rf
  · cases hf
set_option maxRecDepth 20000 in
theorem zm_X11_lose {N : Nat} {s : AS} {l0 : Nat} {l1 : Int32} {r : Int32 × AS} (hf : f_X11_lose N l0 l1 s = some r) : isO s.1 l0 11 ∧ ∀ (l : Launch) (G : GG), Mt l G yX11_lose cX11_lose 3 (some .int) 6 [.ref l0, .int l1] s (some (.int r.1)) r.2 := by
  have hf0 := hf
  unfold f_X11_lose at hf
  split at hf
  · rename_i hO
    refine ⟨hO, fun l G => mt_of (Or.inl (by decide)) (Nat.le_of_ble_eq_true rfl) (lm_X11_lose hf0) (fun E hE => ?_)⟩
    show Z E yX11_lose cX11_lose 3 (some .int) 6 s 0 [(0, .ref l0), (1, .int l1)] []
    refine z_aload_n 0 dX11_lose_0 rfl rfl ?_
    refine z_gP (ci := 11) (k := 1) (C := RX11) (T := TX11) (N := 14) rfl inlX11 (by decide) mw_1_19 (fun _ _ _ _ h9 => h9) hf (by decide) rfl dX11_lose_1  (fun v1 hf => ?_)
    refine z_gP (ci := 1) (k := 2) (C := RX1) (T := TX1) (N := 8) rfl inlX1 (by decide) mw_19_21 (fun _ _ _ _ h9 => h9) hf (by decide) rfl dX11_lose_4  (fun v2 hf => ?_)
    refine z_iload_n 1 dX11_lose_7 rfl rfl ?_
    obtain ⟨v3, ev3, hf⟩ := ob hf
    refine z_cVi (ci := 8) (T := TX8) (N := 2) (As := [.int l1]) (rest := []) (zm_X8_has ev3).2 (zm_X8_has ev3).1 (by decide) rfl (Or.inl rfl) mw_13_22 mw_13_23 mw_14_0 mw_3_13 mw_14_1 yk_X8_has (by decide) (by decide) rfl (Nat.le_of_ble_eq_true rfl) rfl dX11_lose_8 ?_
    refine z_if_ne 21 hf dX11_lose_11 (by decide) (fun hf => ?_) (fun hf => ?_)
    · refine z_aload_n 0 dX11_lose_21 rfl rfl ?_
      refine z_gP (ci := 11) (k := 1) (C := RX11) (T := TX11) (N := 14) rfl inlX11 (by decide) mw_1_19 (fun _ _ _ _ h9 => h9) hf (by decide) rfl dX11_lose_22  (fun v4 hf => ?_)
      refine z_iload_n 1 dX11_lose_25 rfl rfl ?_
      obtain ⟨v5, ev5, hf⟩ := ob hf
      refine z_cVi (ci := 1) (T := TX1) (N := 8) (As := [.int l1]) (rest := []) (zm_X1_isMissing ev5).2 (zm_X1_isMissing ev5).1 (by decide) rfl (Or.inl rfl) mw_21_17 mw_21_18 mw_21_19 mw_1_18 mw_21_20 yk_X1_isMissing (by decide) (by decide) rfl (Nat.le_of_ble_eq_true rfl) rfl dX11_lose_26 ?_
      refine z_istore_n [(2, .int v5), (0, .ref l0), (1, .int l1)] dX11_lose_29 rfl (by decide) rfl ?_
      refine z_aload_n 1 dX11_lose_30 rfl rfl ?_
      obtain ⟨v6, ev6, hf⟩ := ob hf
      refine z_cVv (ci := 11) (T := TX11) (N := 14) (As := []) (rest := []) (zm_X11_change ev6).2 (zm_X11_change ev6).1 (by decide) rfl (Or.inr (tg_le hE (le_X11_lose_34 hf))) mw_8_7 mw_8_8 mw_8_9 mw_1_2 mw_8_10 yk_X11_change (by decide) (by decide) rfl (Nat.le_of_ble_eq_true rfl) rfl dX11_lose_31 ?_
      refine z_lv [(0, .ref l0), (1, .int l1), (2, .int v5)] [1, 2, 0] rfl ?_
      exact zb_X11_lose_34 hE hf
    · refine z_aload_n 0 dX11_lose_14 rfl rfl ?_
      refine z_bipush (-2) (-2) dX11_lose_15 (by decide) ?_
      obtain ⟨v7, ev7, hf⟩ := ob hf
      refine z_cVi (ci := 11) (T := TX11) (N := 14) (As := [.int (-2 : Int32)]) (rest := []) (zm_X11_refuse ev7).2 (zm_X11_refuse ev7).1 (by decide) rfl (Or.inl rfl) mw_7_22 mw_7_23 mw_8_0 mw_1_2 mw_8_1 yk_X11_refuse (by decide) (by decide) rfl (Nat.le_of_ble_eq_true rfl) rfl dX11_lose_17 ?_
      cases hf
      exact z_ireturn hE rfl dX11_lose_20
  · cases hf
set_option maxRecDepth 20000 in
theorem zm_X11_wholeIn {N : Nat} {sh : Sh} {d : Dt} {l0 : Int32} {l1 : Int32} {r : Int32} (hf : f_X11_wholeIn N sh l0 l1 d = some r) : ∀ (l : Launch) (G : GG), Mt l G yX11_wholeIn cX11_wholeIn 9 (some .int) 1 [.int l0, .int l1] (sh, d) (some (.int r)) (sh, d) := by
  have hf0 := hf
  unfold f_X11_wholeIn at hf
  refine fun l G => mt_of (Or.inl (by decide)) (Nat.le_of_ble_eq_true rfl) Le.rf (fun E hE => ?_)
  show Z E yX11_wholeIn cX11_wholeIn 9 (some .int) 1 (sh, d) 0 [(0, .int l0), (1, .int l1)] []
  refine z_iload_n 0 dX11_wholeIn_0 rfl rfl ?_
  refine z_i2f dX11_wholeIn_1 ?_
  refine z_f2l dX11_wholeIn_2 ?_
  refine z_lstore_n [(2, .long (FP.f2l (FP.i2f l0))), (0, .int l0), (1, .int l1)] dX11_wholeIn_3 rfl (by decide) rfl ?_
  refine z_iload_n 2 dX11_wholeIn_4 rfl rfl ?_
  refine z_i2f dX11_wholeIn_5 ?_
  refine z_f2l dX11_wholeIn_6 ?_
  refine z_lstore [(4, .long (FP.f2l (FP.i2f l1))), (2, .long (FP.f2l (FP.i2f l0))), (0, .int l0), (1, .int l1)] dX11_wholeIn_7 (by decide) rfl ?_
  refine z_lload 0 dX11_wholeIn_9 rfl ?_
  refine z_lconst 1 1 dX11_wholeIn_11 (by decide) ?_
  refine z_lcmp dX11_wholeIn_12 ?_
  refine z_if_ge 18 hf dX11_wholeIn_13 (by decide) (fun hf => ?_) (fun hf => ?_)
  · refine z_lload_n 1 dX11_wholeIn_18 rfl rfl ?_
    refine z_lload 0 dX11_wholeIn_19 rfl ?_
    refine z_lrem hf dX11_wholeIn_21  (fun v1 hf => ?_)
    refine z_l2f dX11_wholeIn_22 ?_
    refine z_ldcwf mw_28_23 dX11_wholeIn_23 ?_
    refine z_fdiv hf dX11_wholeIn_26  (fun v2 hf => ?_)
    refine z_fstore [(6, .float v2), (4, .long (FP.f2l (FP.i2f l1))), (2, .long (FP.f2l (FP.i2f l0))), (0, .int l0), (1, .int l1)] dX11_wholeIn_27 (by decide) rfl ?_
    refine z_iload_n 3 dX11_wholeIn_29 rfl rfl ?_
    refine z_i2f dX11_wholeIn_30 ?_
    refine z_ldcwf mw_28_23 dX11_wholeIn_31 ?_
    refine z_fdiv hf dX11_wholeIn_34  (fun v3 hf => ?_)
    refine z_fstore [(7, .float v3), (6, .float v2), (4, .long (FP.f2l (FP.i2f l1))), (2, .long (FP.f2l (FP.i2f l0))), (0, .int l0), (1, .int l1)] dX11_wholeIn_35 (by decide) rfl ?_
    refine z_iload_n 5 dX11_wholeIn_37 rfl rfl ?_
    refine z_i2f dX11_wholeIn_38 ?_
    refine z_ldcwf mw_28_23 dX11_wholeIn_39 ?_
    refine z_fdiv hf dX11_wholeIn_42  (fun v4 hf => ?_)
    refine z_fstore [(8, .float v4), (7, .float v3), (6, .float v2), (4, .long (FP.f2l (FP.i2f l1))), (2, .long (FP.f2l (FP.i2f l0))), (0, .int l0), (1, .int l1)] dX11_wholeIn_43 (by decide) rfl ?_
    refine z_ldcw mw_27_17 dX11_wholeIn_45 ?_
    refine z_fload 1 dX11_wholeIn_48 rfl ?_
    refine z_fload 2 dX11_wholeIn_50 rfl ?_
    refine z_fsub hf dX11_wholeIn_52  (fun v5 hf => ?_)
    refine z_fload 0 dX11_wholeIn_53 rfl ?_
    refine z_fdiv hf dX11_wholeIn_55  (fun v6 hf => ?_)
    refine z_f2i dX11_wholeIn_56 ?_
    refine z_min mw_27_19 mw_9_20 mw_8_22 mw_9_21 (by decide) (Nat.le_of_ble_eq_true rfl) dX11_wholeIn_57 ?_
    cases hf
    exact z_ireturn hE rfl dX11_wholeIn_60
  · refine z_iconst 0 0 dX11_wholeIn_16 (by decide) ?_
    cases hf
    exact z_ireturn hE rfl dX11_wholeIn_17
set_option maxRecDepth 20000 in
theorem zm_X1_lessDrift {N : Nat} {sh : Sh} {d : Dt} {l0 : Nat} {l1 : Int32} {l2 : Int32} {r : Dt} (hf : f_X1_lessDrift N sh l0 l1 l2 d = some r) : isO sh l0 1 ∧ ∀ (l : Launch) (G : GG), Mt l G yX1_lessDrift cX1_lessDrift 3 none 2 [.ref l0, .int l1, .int l2] (sh, d) none (sh, r) := by
  have hf0 := hf
  unfold f_X1_lessDrift at hf
  split at hf
  · rename_i hO
    refine ⟨hO, fun l G => mt_of (Or.inl (by decide)) (Nat.le_of_ble_eq_true rfl) Le.rf (fun E hE => ?_)⟩
    show Z E yX1_lessDrift cX1_lessDrift 3 none 2 (sh, d) 0 [(0, .ref l0), (1, .int l1), (2, .int l2)] []
    refine z_aload_n 0 dX1_lessDrift_0 rfl rfl ?_
    refine z_gP (ci := 1) (k := 1) (C := RX1) (T := TX1) (N := 8) rfl inlX1 (by decide) mw_3_14 (fun _ _ _ _ h9 => h9) hf (by decide) rfl dX1_lessDrift_1  (fun v1 hf => ?_)
    refine z_iload_n 1 dX1_lessDrift_4 rfl rfl ?_
    refine z_iconst 0 0 dX1_lessDrift_5 (by decide) ?_
    refine z_iconst 0 0 dX1_lessDrift_6 (by decide) ?_
    refine z_aload_n 0 dX1_lessDrift_7 rfl rfl ?_
    refine z_gP (ci := 1) (k := 1) (C := RX1) (T := TX1) (N := 8) rfl inlX1 (by decide) mw_3_14 (fun _ _ _ _ h9 => h9) hf (by decide) rfl dX1_lessDrift_8  (fun v2 hf => ?_)
    refine z_iload_n 1 dX1_lessDrift_11 rfl rfl ?_
    refine z_iconst 0 0 dX1_lessDrift_12 (by decide) ?_
    obtain ⟨v3, ev3, hf⟩ := ob hf
    refine z_cVi (ci := 8) (T := TX8) (N := 2) (As := [.int l1, .int (0 : Int32)]) (rest := [.int (0 : Int32), .int (0 : Int32), .int l1, .ref v1]) (zm_X8_get ev3).2 (zm_X8_get ev3).1 (by decide) rfl (Or.inl rfl) mw_10_10 mw_10_11 mw_10_12 mw_3_13 mw_10_13 yk_X8_get (by decide) (by decide) rfl (Nat.le_of_ble_eq_true rfl) rfl dX1_lessDrift_13 ?_
    refine z_iload_n 2 dX1_lessDrift_16 rfl rfl ?_
    refine z_isub dX1_lessDrift_17 ?_
    refine z_max mw_8_20 mw_8_21 mw_8_22 mw_8_23 (by decide) (Nat.le_of_ble_eq_true rfl) dX1_lessDrift_18 ?_
    obtain ⟨v4, ev4, hf⟩ := ob hf
    refine z_cVv (ci := 8) (T := TX8) (N := 2) (As := [.int l1, .int (0 : Int32), .int (o_max (0 : Int32) (v3 - l2))]) (rest := []) (zm_X8_put ev4).2 (zm_X8_put ev4).1 (by decide) rfl (Or.inl rfl) mw_20_3 mw_12_23 mw_13_0 mw_3_13 mw_13_1 yk_X8_put (by decide) (by decide) rfl (Nat.le_of_ble_eq_true rfl) rfl dX1_lessDrift_21 ?_
    cases hf
    exact z_return hE rfl dX1_lessDrift_24
  · cases hf
set_option maxRecDepth 20000 in
theorem le_X11_melt_8 {N : Nat} {r : Int32 × AS}  {l0 : Nat} {s : AS} (hf : f_X11_melt_8 N l0 s = some r) : Le s r.2 := by
  unfold f_X11_melt_8 at hf
  obtain ⟨v4, -, hf⟩ := ob hf
  cases hf
  exact Le.rf
set_option maxRecDepth 20000 in
theorem zb_X11_melt_8 {N : Nat} {r : Int32 × AS} {E : EV} (hE : TG E (some (.int r.1)) r.2)  {l0 : Nat} {s : AS} (hf : f_X11_melt_8 N l0 s = some r) : Z E yX11_melt cX11_melt 5 (some .int) 6 s 8 [(0, .ref l0)] [] := by
  unfold f_X11_melt_8 at hf
  refine z_aload_n 0 dX11_melt_8 rfl rfl ?_
  refine z_bipush (-2) (-2) dX11_melt_9 (by decide) ?_
  obtain ⟨v4, ev4, hf⟩ := ob hf
  refine z_cVi (ci := 11) (T := TX11) (N := 14) (As := [.int (-2 : Int32)]) (rest := []) (zm_X11_refuse ev4).2 (zm_X11_refuse ev4).1 (by decide) rfl (Or.inl rfl) mw_7_22 mw_7_23 mw_8_0 mw_1_2 mw_8_1 yk_X11_refuse (by decide) (by decide) rfl (Nat.le_of_ble_eq_true rfl) rfl dX11_melt_11 ?_
  cases hf
  exact z_ireturn hE rfl dX11_melt_14
set_option maxRecDepth 20000 in
theorem le_X11_melt_72 {N : Nat} {r : Int32 × AS}  {l0 : Nat} {l3 : Int32} {s : AS} (hf : f_X11_melt_72 N l0 l3 s = some r) : Le s r.2 := by
  unfold f_X11_melt_72 at hf
  obtain ⟨v10, -, hf⟩ := ob hf
  cases hf
  exact Le.rf
set_option maxRecDepth 20000 in
theorem zb_X11_melt_72 {N : Nat} {r : Int32 × AS} {E : EV} (hE : TG E (some (.int r.1)) r.2)  {l0 : Nat} {l3 : Int32} {s : AS} (hf : f_X11_melt_72 N l0 l3 s = some r) : Z E yX11_melt cX11_melt 5 (some .int) 6 s 72 [(0, .ref l0), (3, .int l3)] [] := by
  unfold f_X11_melt_72 at hf
  refine z_aload_n 0 dX11_melt_72 rfl rfl ?_
  refine z_iload_n 1 dX11_melt_73 rfl rfl ?_
  obtain ⟨v10, ev10, hf⟩ := ob hf
  refine z_cVi (ci := 11) (T := TX11) (N := 14) (As := [.int l3]) (rest := []) (zm_X11_answer ev10).2 (zm_X11_answer ev10).1 (by decide) rfl (Or.inl rfl) mw_11_2 mw_11_3 mw_11_4 mw_1_2 mw_11_5 yk_X11_answer (by decide) (by decide) rfl (Nat.le_of_ble_eq_true rfl) rfl dX11_melt_74 ?_
  cases hf
  exact z_ireturn hE rfl dX11_melt_77
set_option maxRecDepth 20000 in
theorem lg_X11_melt_39 {N : Nat} {r : Int32 × AS} {k39 : Nat → Int32 → Int32 → AS → Option (Int32 × AS)}  (hk39 : ∀ (l0 : Nat) (l3 : Int32) (l4 : Int32) (s : AS), k39 l0 l3 l4 s = some r → Le s r.2) {l0 : Nat} {l3 : Int32} {l4 : Int32} {s : AS} (hf : g_X11_melt_39 N k39 l0 l3 l4 s = some r) : Le s r.2 := by
  unfold g_X11_melt_39 at hf
  obtain ⟨v5, -, hf⟩ := ob hf
  obtain ⟨v6, -, hf⟩ := ob hf
  obtain ⟨v7, -, hf⟩ := ob hf
  split at hf
  · exact Le.via (le_X11_melt_72 hf) rfl
  · obtain ⟨v8, -, hf⟩ := ob hf
    obtain ⟨v9, -, hf⟩ := ob hf
    exact Le.via (hk39 _ _ _ _ hf) rfl
set_option maxRecDepth 20000 in
theorem le_X11_melt_39 {N : Nat} {r : Int32 × AS}  : ∀ (n : Nat) (l0 : Nat) (l3 : Int32) (l4 : Int32) (s : AS), f_X11_melt_39 N n l0 l3 l4 s = some r → Le s r.2 := by
  intro n
  induction n with
  | zero => intro l0 l3 l4 s hf; cases hf
  | succ n ih => intro l0 l3 l4 s hf; exact lg_X11_melt_39 ih hf
set_option maxRecDepth 20000 in
theorem zg_X11_melt_39 {N : Nat} {r : Int32 × AS} {k39 : Nat → Int32 → Int32 → AS → Option (Int32 × AS)} {E : EV} (hE : TG E (some (.int r.1)) r.2)  (hk39 : ∀ (l0 : Nat) (l3 : Int32) (l4 : Int32) (s : AS), k39 l0 l3 l4 s = some r → Z E yX11_melt cX11_melt 5 (some .int) 6 s 39 [(0, .ref l0), (3, .int l3), (4, .int l4)] []) {l0 : Nat} {l3 : Int32} {l4 : Int32} {s : AS} (hf : g_X11_melt_39 N k39 l0 l3 l4 s = some r) : Z E yX11_melt cX11_melt 5 (some .int) 6 s 39 [(0, .ref l0), (3, .int l3), (4, .int l4)] [] := by
  unfold g_X11_melt_39 at hf
  refine z_iload 2 dX11_melt_39 rfl ?_
  refine z_aload_n 0 dX11_melt_41 rfl rfl ?_
  refine z_gP (ci := 11) (k := 1) (C := RX11) (T := TX11) (N := 14) rfl inlX11 (by decide) mw_1_19 (fun _ _ _ _ h9 => h9) hf (by decide) rfl dX11_melt_42  (fun v5 hf => ?_)
  refine z_gP (ci := 1) (k := 1) (C := RX1) (T := TX1) (N := 8) rfl inlX1 (by decide) mw_12_12 (fun _ _ _ _ h9 => h9) hf (by decide) rfl dX11_melt_45  (fun v6 hf => ?_)
  refine z_gI (ci := 8) (k := 1) (C := RX8) (T := TX8) (N := 2) rfl inlX8 (by decide) mw_12_13 (fun _ _ _ _ h9 => h9) hf (by decide) rfl dX11_melt_48  (fun v7 hf => ?_)
  refine z_icmp_ge 72 hf dX11_melt_51 (by decide) (fun hf => ?_) (fun hf => ?_)
  · refine z_lv [(0, .ref l0), (3, .int l3)] [0, 1] rfl ?_
    exact zb_X11_melt_72 hE hf
  · refine z_aload_n 0 dX11_melt_54 rfl rfl ?_
    refine z_gP (ci := 11) (k := 1) (C := RX11) (T := TX11) (N := 14) rfl inlX11 (by decide) mw_1_19 (fun _ _ _ _ h9 => h9) hf (by decide) rfl dX11_melt_55  (fun v8 hf => ?_)
    refine z_iload 2 dX11_melt_58 rfl ?_
    refine z_iconst 3 3 dX11_melt_60 (by decide) ?_
    refine z_iload_n 1 dX11_melt_61 rfl rfl ?_
    refine z_imul dX11_melt_62 ?_
    obtain ⟨v9, ev9, hf⟩ := ob hf
    refine z_cVv (ci := 1) (T := TX1) (N := 8) (As := [.int l4, .int ((3 : Int32) * l3)]) (rest := []) (zm_X1_lessDrift ev9).2 (zm_X1_lessDrift ev9).1 (by decide) rfl (Or.inl rfl) mw_29_0 mw_29_1 mw_29_2 mw_1_18 mw_29_3 yk_X1_lessDrift (by decide) (by decide) rfl (Nat.le_of_ble_eq_true rfl) rfl dX11_melt_63 ?_
    refine z_iinc [(4, .int (l4 + 1)), (0, .ref l0), (3, .int l3)] 2 (l4 + 1) dX11_melt_66 rfl rfl (by decide) rfl ?_
    refine z_goto 39 dX11_melt_69 (by decide) ?_
    refine z_lv [(0, .ref l0), (3, .int l3), (4, .int (l4 + 1))] [1, 2, 0] rfl ?_
    exact hk39 _ _ _ _ hf
set_option maxRecDepth 20000 in
theorem zb_X11_melt_39 {N : Nat} {r : Int32 × AS} {E : EV} (hE : TG E (some (.int r.1)) r.2)  : ∀ (n : Nat) (l0 : Nat) (l3 : Int32) (l4 : Int32) (s : AS), f_X11_melt_39 N n l0 l3 l4 s = some r → Z E yX11_melt cX11_melt 5 (some .int) 6 s 39 [(0, .ref l0), (3, .int l3), (4, .int l4)] [] := by
  intro n
  induction n with
  | zero => intro l0 l3 l4 s hf; cases hf
  | succ n ih => intro l0 l3 l4 s hf; exact zg_X11_melt_39 hE ih hf
set_option maxRecDepth 20000 in
theorem le_X11_melt_36 {N : Nat} {r : Int32 × AS}  {l0 : Nat} {l3 : Int32} {s : AS} (hf : f_X11_melt_36 N l0 l3 s = some r) : Le s r.2 := by
  unfold f_X11_melt_36 at hf
  exact Le.via (le_X11_melt_39 N _ _ _ _ hf) rfl
set_option maxRecDepth 20000 in
theorem zb_X11_melt_36 {N : Nat} {r : Int32 × AS} {E : EV} (hE : TG E (some (.int r.1)) r.2)  {l0 : Nat} {l3 : Int32} {s : AS} (hf : f_X11_melt_36 N l0 l3 s = some r) : Z E yX11_melt cX11_melt 5 (some .int) 6 s 36 [(0, .ref l0), (3, .int l3)] [] := by
  unfold f_X11_melt_36 at hf
  refine z_iconst 0 0 dX11_melt_36 (by decide) ?_
  refine z_istore [(4, .int (0 : Int32)), (0, .ref l0), (3, .int l3)] dX11_melt_37 (by decide) rfl ?_
  refine z_lv [(0, .ref l0), (3, .int l3), (4, .int (0 : Int32))] [1, 2, 0] rfl ?_
  exact zb_X11_melt_39 hE N _ _ _ _ hf
set_option maxRecDepth 20000 in
theorem lm_X11_melt {N : Nat} {s : AS} {l0 : Nat} {l1 : Int32} {l2 : Int32} {r : Int32 × AS} (hf : f_X11_melt N l0 l1 l2 s = some r) : Le s r.2 := by
  unfold f_X11_melt at hf
  split at hf
  · skip
    split at hf
    · exact Le.via (le_X11_melt_8 hf) rfl
    · split at hf
      · split at hf
        · obtain ⟨v1, -, hf⟩ := ob hf
          obtain ⟨v2, ev2, hf⟩ := ob hf
          refine Le.of (t := (s.1, s.2)) rfl ((lm_X11_change ev2).tr ?_)
          exact Le.via (le_X11_melt_36 hf) rfl
        · obtain ⟨v3, -, hf⟩ := ob hf
          cases hf
          exact Le.rf
      · exact Le.via (le_X11_melt_8 hf) rfl
  · cases hf
set_option maxRecDepth 20000 in
theorem zm_X11_melt {N : Nat} {s : AS} {l0 : Nat} {l1 : Int32} {l2 : Int32} {r : Int32 × AS} (hf : f_X11_melt N l0 l1 l2 s = some r) : isO s.1 l0 11 ∧ ∀ (l : Launch) (G : GG), Mt l G yX11_melt cX11_melt 5 (some .int) 6 [.ref l0, .int l1, .int l2] s (some (.int r.1)) r.2 := by
  have hf0 := hf
  unfold f_X11_melt at hf
  split at hf
  · rename_i hO
    refine ⟨hO, fun l G => mt_of (Or.inl (by decide)) (Nat.le_of_ble_eq_true rfl) (lm_X11_melt hf0) (fun E hE => ?_)⟩
    show Z E yX11_melt cX11_melt 5 (some .int) 6 s 0 [(0, .ref l0), (1, .int l1), (2, .int l2)] []
    refine z_iload_n 1 dX11_melt_0 rfl rfl ?_
    refine z_if_lt 8 hf dX11_melt_1 (by decide) (fun hf => ?_) (fun hf => ?_)
    · refine z_lv [(0, .ref l0)] [0] rfl ?_
      exact zb_X11_melt_8 hE hf
    · refine z_iload_n 2 dX11_melt_4 rfl rfl ?_
      refine z_if_ge 15 hf dX11_melt_5 (by decide) (fun hf => ?_) (fun hf => ?_)
      · refine z_iload_n 2 dX11_melt_15 rfl rfl ?_
        refine z_if_ne 26 hf dX11_melt_16 (by decide) (fun hf => ?_) (fun hf => ?_)
        · refine z_iload_n 1 dX11_melt_26 rfl rfl ?_
          refine z_iload_n 2 dX11_melt_27 rfl rfl ?_
          obtain ⟨v1, ev1, hf⟩ := ob hf
          refine z_cTi (As := [.int l1, .int l2]) (rest := []) (zm_X11_wholeIn ev1) (Or.inl rfl) mw_28_20 mw_28_21 mw_1_2 mw_28_22 yk_X11_wholeIn (by decide) (by decide) rfl (Nat.le_of_ble_eq_true rfl) rfl dX11_melt_28 ?_
          refine z_istore_n [(3, .int v1), (0, .ref l0), (1, .int l1), (2, .int l2)] dX11_melt_31 rfl (by decide) rfl ?_
          refine z_aload_n 1 dX11_melt_32 rfl rfl ?_
          obtain ⟨v2, ev2, hf⟩ := ob hf
          refine z_cVv (ci := 11) (T := TX11) (N := 14) (As := []) (rest := []) (zm_X11_change ev2).2 (zm_X11_change ev2).1 (by decide) rfl (Or.inr (tg_le hE (le_X11_melt_36 hf))) mw_8_7 mw_8_8 mw_8_9 mw_1_2 mw_8_10 yk_X11_change (by decide) (by decide) rfl (Nat.le_of_ble_eq_true rfl) rfl dX11_melt_33 ?_
          refine z_lv [(0, .ref l0), (3, .int v1)] [1, 0] rfl ?_
          exact zb_X11_melt_36 hE hf
        · refine z_aload_n 0 dX11_melt_19 rfl rfl ?_
          refine z_bipush (-8) (-8) dX11_melt_20 (by decide) ?_
          obtain ⟨v3, ev3, hf⟩ := ob hf
          refine z_cVi (ci := 11) (T := TX11) (N := 14) (As := [.int (-8 : Int32)]) (rest := []) (zm_X11_refuse ev3).2 (zm_X11_refuse ev3).1 (by decide) rfl (Or.inl rfl) mw_7_22 mw_7_23 mw_8_0 mw_1_2 mw_8_1 yk_X11_refuse (by decide) (by decide) rfl (Nat.le_of_ble_eq_true rfl) rfl dX11_melt_22 ?_
          cases hf
          exact z_ireturn hE rfl dX11_melt_25
      · refine z_lv [(0, .ref l0)] [0] rfl ?_
        exact zb_X11_melt_8 hE hf
  · cases hf
set_option maxRecDepth 20000 in
theorem zb_X1_whyUnread_34 {N : Nat} {sh : Sh} {d : Dt} {r : Int32} {E : EV} (hE : TG E (some (.int r)) (sh, d))  {t0 : Int32} (hf : f_X1_whyUnread_34 N sh t0 d = some r) : Z E yX1_whyUnread cX1_whyUnread 3 (some .int) 3 (sh, d) 34 [] [.int t0] := by
  unfold f_X1_whyUnread_34 at hf
  cases hf
  exact z_ireturn hE rfl dX1_whyUnread_34
set_option maxRecDepth 20000 in
theorem zb_X1_whyUnread_28 {N : Nat} {sh : Sh} {d : Dt} {r : Int32} {E : EV} (hE : TG E (some (.int r)) (sh, d))   (hf : f_X1_whyUnread_28 N sh  d = some r) : Z E yX1_whyUnread cX1_whyUnread 3 (some .int) 3 (sh, d) 28 [] [] := by
  unfold f_X1_whyUnread_28 at hf
  refine z_bipush (-5) (-5) dX1_whyUnread_28 (by decide) ?_
  refine z_goto 34 dX1_whyUnread_30 (by decide) ?_
  exact zb_X1_whyUnread_34 hE hf
set_option maxRecDepth 20000 in
theorem zm_X1_whyUnread {N : Nat} {sh : Sh} {d : Dt} {l0 : Nat} {l1 : Int32} {l2 : Int32} {r : Int32} (hf : f_X1_whyUnread N sh l0 l1 l2 d = some r) : isO sh l0 1 ∧ ∀ (l : Launch) (G : GG), Mt l G yX1_whyUnread cX1_whyUnread 3 (some .int) 3 [.ref l0, .int l1, .int l2] (sh, d) (some (.int r)) (sh, d) := by
  have hf0 := hf
  unfold f_X1_whyUnread at hf
  split at hf
  · rename_i hO
    refine ⟨hO, fun l G => mt_of (Or.inl (by decide)) (Nat.le_of_ble_eq_true rfl) Le.rf (fun E hE => ?_)⟩
    show Z E yX1_whyUnread cX1_whyUnread 3 (some .int) 3 (sh, d) 0 [(0, .ref l0), (1, .int l1), (2, .int l2)] []
    refine z_aload_n 0 dX1_whyUnread_0 rfl rfl ?_
    refine z_iload_n 1 dX1_whyUnread_1 rfl rfl ?_
    obtain ⟨v1, ev1, hf⟩ := ob hf
    refine z_cVi (ci := 1) (T := TX1) (N := 8) (As := [.int l1]) (rest := []) (zm_X1_isMissing ev1).2 (zm_X1_isMissing ev1).1 (by decide) rfl (Or.inl rfl) mw_22_22 mw_21_18 mw_21_19 mw_1_18 mw_21_20 yk_X1_isMissing (by decide) (by decide) rfl (Nat.le_of_ble_eq_true rfl) rfl dX1_whyUnread_2 ?_
    refine z_if_eq 11 hf dX1_whyUnread_5 (by decide) (fun hf => ?_) (fun hf => ?_)
    · refine z_iload_n 2 dX1_whyUnread_11 rfl rfl ?_
      refine z_if_lt 28 hf dX1_whyUnread_12 (by decide) (fun hf => ?_) (fun hf => ?_)
      · refine z_lv [] [] rfl ?_
        exact zb_X1_whyUnread_28 hE hf
      · refine z_iload_n 2 dX1_whyUnread_15 rfl rfl ?_
        refine z_aload_n 0 dX1_whyUnread_16 rfl rfl ?_
        refine z_gP (ci := 1) (k := 2) (C := RX1) (T := TX1) (N := 8) rfl inlX1 (by decide) mw_3_15 (fun _ _ _ _ h9 => h9) hf (by decide) rfl dX1_whyUnread_17  (fun v2 hf => ?_)
        refine z_iload_n 1 dX1_whyUnread_20 rfl rfl ?_
        refine z_iconst 2 2 dX1_whyUnread_21 (by decide) ?_
        obtain ⟨v3, ev3, hf⟩ := ob hf
        refine z_cVi (ci := 8) (T := TX8) (N := 2) (As := [.int l1, .int (2 : Int32)]) (rest := [.int l2]) (zm_X8_get ev3).2 (zm_X8_get ev3).1 (by decide) rfl (Or.inl rfl) mw_10_10 mw_10_11 mw_10_12 mw_3_13 mw_10_13 yk_X8_get (by decide) (by decide) rfl (Nat.le_of_ble_eq_true rfl) rfl dX1_whyUnread_22 ?_
        refine z_icmp_lt 33 hf dX1_whyUnread_25 (by decide) (fun hf => ?_) (fun hf => ?_)
        · refine z_iconst 0 0 dX1_whyUnread_33 (by decide) ?_
          refine z_lv [] [] rfl ?_
          exact zb_X1_whyUnread_34 hE hf
        · refine z_lv [] [] rfl ?_
          exact zb_X1_whyUnread_28 hE hf
    · refine z_bipush (-4) (-4) dX1_whyUnread_8 (by decide) ?_
      cases hf
      exact z_ireturn hE rfl dX1_whyUnread_10
  · cases hf
set_option maxRecDepth 20000 in
theorem zb_X1_setCell_21 {N : Nat} {sh : Sh} {r : Dt} {E : EV} (hE : TG E none (sh, r))   {d : Dt} (hf : f_X1_setCell_21 N sh  d = some r) : Z E yX1_setCell cX1_setCell 6 none 3 (sh, d) 21 [] [] := by
  unfold f_X1_setCell_21 at hf
  cases hf
  exact z_return hE rfl dX1_setCell_21
set_option maxRecDepth 20000 in
theorem zm_X1_setCell {N : Nat} {sh : Sh} {d : Dt} {l0 : Nat} {l1 : Int32} {l2 : Int32} {l3 : Int64} {r : Dt} (hf : f_X1_setCell N sh l0 l1 l2 l3 d = some r) : isO sh l0 1 ∧ ∀ (l : Launch) (G : GG), Mt l G yX1_setCell cX1_setCell 6 none 3 [.ref l0, .int l1, .int l2, .long l3] (sh, d) none (sh, r) := by
  have hf0 := hf
  unfold f_X1_setCell at hf
  split at hf
  · rename_i hO
    refine ⟨hO, fun l G => mt_of (Or.inl (by decide)) (Nat.le_of_ble_eq_true rfl) Le.rf (fun E hE => ?_)⟩
    show Z E yX1_setCell cX1_setCell 6 none 3 (sh, d) 0 [(0, .ref l0), (1, .int l1), (2, .int l2), (3, .long l3)] []
    refine z_aload_n 0 dX1_setCell_0 rfl rfl ?_
    refine z_iload_n 1 dX1_setCell_1 rfl rfl ?_
    refine z_iload_n 2 dX1_setCell_2 rfl rfl ?_
    obtain ⟨v1, ev1, hf⟩ := ob hf
    refine z_cVi (ci := 1) (T := TX1) (N := 8) (As := [.int l1, .int l2]) (rest := []) (zm_X1_cellAt ev1).2 (zm_X1_cellAt ev1).1 (by decide) rfl (Or.inl rfl) mw_21_0 mw_21_1 mw_21_2 mw_1_18 mw_21_3 yk_X1_cellAt (by decide) (by decide) rfl (Nat.le_of_ble_eq_true rfl) rfl dX1_setCell_3 ?_
    refine z_istore [(5, .int v1), (0, .ref l0), (1, .int l1), (2, .int l2), (3, .long l3)] dX1_setCell_6 (by decide) rfl ?_
    refine z_iload 0 dX1_setCell_8 rfl ?_
    refine z_if_lt 21 hf dX1_setCell_10 (by decide) (fun hf => ?_) (fun hf => ?_)
    · refine z_lv [] [] rfl ?_
      exact zb_X1_setCell_21 hE hf
    · refine z_aload_n 1 dX1_setCell_13 rfl rfl ?_
      refine z_gQ (ci := 1) (k := 7) (C := RX1) (T := TX1) (N := 8) rfl inlX1 (by decide) mw_3_21 (fun _ _ _ _ h9 => h9) hf (by decide) rfl dX1_setCell_14  (fun v2 hf => ?_)
      refine z_iload 0 dX1_setCell_17 rfl ?_
      refine z_lload_n 4 dX1_setCell_19 rfl rfl ?_
      refine z_sJ hf dX1_setCell_20  (fun d3 hf => ?_)
      refine z_lv [] [] rfl ?_
      exact zb_X1_setCell_21 hE hf
  · cases hf
set_option maxRecDepth 20000 in
theorem le_X11_note_27 {N : Nat} {r : Int32 × AS}  {l0 : Nat} {l1 : Int32} {l2 : Int32} {l3 : Int64} {s : AS} (hf : f_X11_note_27 N l0 l1 l2 l3 s = some r) : Le s r.2 := by
  unfold f_X11_note_27 at hf
  obtain ⟨v5, -, hf⟩ := ob hf
  obtain ⟨v6, -, hf⟩ := ob hf
  obtain ⟨v7, -, hf⟩ := ob hf
  cases hf
  exact Le.rf
set_option maxRecDepth 20000 in
theorem zb_X11_note_27 {N : Nat} {r : Int32 × AS} {E : EV} (hE : TG E (some (.int r.1)) r.2)  {l0 : Nat} {l1 : Int32} {l2 : Int32} {l3 : Int64} {s : AS} (hf : f_X11_note_27 N l0 l1 l2 l3 s = some r) : Z E yX11_note cX11_note 6 (some .int) 6 s 27 [(0, .ref l0), (1, .int l1), (2, .int l2), (3, .long l3)] [] := by
  unfold f_X11_note_27 at hf
  refine z_aload_n 0 dX11_note_27 rfl rfl ?_
  refine z_gP (ci := 11) (k := 1) (C := RX11) (T := TX11) (N := 14) rfl inlX11 (by decide) mw_1_19 (fun _ _ _ _ h9 => h9) hf (by decide) rfl dX11_note_28  (fun v5 hf => ?_)
  refine z_iload_n 1 dX11_note_31 rfl rfl ?_
  refine z_iload_n 2 dX11_note_32 rfl rfl ?_
  refine z_lload_n 3 dX11_note_33 rfl rfl ?_
  obtain ⟨v6, ev6, hf⟩ := ob hf
  refine z_cVv (ci := 1) (T := TX1) (N := 8) (As := [.int l1, .int l2, .long l3]) (rest := []) (zm_X1_setCell ev6).2 (zm_X1_setCell ev6).1 (by decide) rfl (Or.inl rfl) mw_22_23 mw_20_21 mw_20_22 mw_1_18 mw_20_23 yk_X1_setCell (by decide) (by decide) rfl (Nat.le_of_ble_eq_true rfl) rfl dX11_note_34 ?_
  refine z_aload_n 0 dX11_note_37 rfl rfl ?_
  refine z_iconst 1 1 dX11_note_38 (by decide) ?_
  obtain ⟨v7, ev7, hf⟩ := ob hf
  refine z_cVi (ci := 11) (T := TX11) (N := 14) (As := [.int (1 : Int32)]) (rest := []) (zm_X11_answer ev7).2 (zm_X11_answer ev7).1 (by decide) rfl (Or.inl rfl) mw_11_2 mw_11_3 mw_11_4 mw_1_2 mw_11_5 yk_X11_answer (by decide) (by decide) rfl (Nat.le_of_ble_eq_true rfl) rfl dX11_note_39 ?_
  cases hf
  exact z_ireturn hE rfl dX11_note_42
set_option maxRecDepth 20000 in
theorem lm_X11_note {N : Nat} {s : AS} {l0 : Nat} {l1 : Int32} {l2 : Int32} {l3 : Int64} {r : Int32 × AS} (hf : f_X11_note N l0 l1 l2 l3 s = some r) : Le s r.2 := by
  unfold f_X11_note at hf
  split at hf
  · skip
    obtain ⟨v1, -, hf⟩ := ob hf
    obtain ⟨v2, -, hf⟩ := ob hf
    split at hf
    · obtain ⟨v3, ev3, hf⟩ := ob hf
      refine Le.of (t := (s.1, s.2)) rfl ((lm_X11_change ev3).tr ?_)
      exact Le.via (le_X11_note_27 hf) rfl
    · obtain ⟨v4, -, hf⟩ := ob hf
      cases hf
      exact Le.rf
  · cases hf
set_option maxRecDepth 20000 in
theorem zm_X11_note {N : Nat} {s : AS} {l0 : Nat} {l1 : Int32} {l2 : Int32} {l3 : Int64} {r : Int32 × AS} (hf : f_X11_note N l0 l1 l2 l3 s = some r) : isO s.1 l0 11 ∧ ∀ (l : Launch) (G : GG), Mt l G yX11_note cX11_note 6 (some .int) 6 [.ref l0, .int l1, .int l2, .long l3] s (some (.int r.1)) r.2 := by
  have hf0 := hf
  unfold f_X11_note at hf
  split at hf
  · rename_i hO
    refine ⟨hO, fun l G => mt_of (Or.inl (by decide)) (Nat.le_of_ble_eq_true rfl) (lm_X11_note hf0) (fun E hE => ?_)⟩
    show Z E yX11_note cX11_note 6 (some .int) 6 s 0 [(0, .ref l0), (1, .int l1), (2, .int l2), (3, .long l3)] []
    refine z_aload_n 0 dX11_note_0 rfl rfl ?_
    refine z_gP (ci := 11) (k := 1) (C := RX11) (T := TX11) (N := 14) rfl inlX11 (by decide) mw_1_19 (fun _ _ _ _ h9 => h9) hf (by decide) rfl dX11_note_1  (fun v1 hf => ?_)
    refine z_iload_n 1 dX11_note_4 rfl rfl ?_
    refine z_iload_n 2 dX11_note_5 rfl rfl ?_
    obtain ⟨v2, ev2, hf⟩ := ob hf
    refine z_cVi (ci := 1) (T := TX1) (N := 8) (As := [.int l1, .int l2]) (rest := []) (zm_X1_whyUnread ev2).2 (zm_X1_whyUnread ev2).1 (by decide) rfl (Or.inl rfl) mw_22_18 mw_22_19 mw_22_20 mw_1_18 mw_22_21 yk_X1_whyUnread (by decide) (by decide) rfl (Nat.le_of_ble_eq_true rfl) rfl dX11_note_6 ?_
    refine z_istore [(5, .int v2), (0, .ref l0), (1, .int l1), (2, .int l2), (3, .long l3)] dX11_note_9 (by decide) rfl ?_
    refine z_iload 0 dX11_note_11 rfl ?_
    refine z_if_eq 23 hf dX11_note_13 (by decide) (fun hf => ?_) (fun hf => ?_)
    · refine z_aload_n 1 dX11_note_23 rfl rfl ?_
      obtain ⟨v3, ev3, hf⟩ := ob hf
      refine z_cVv (ci := 11) (T := TX11) (N := 14) (As := []) (rest := []) (zm_X11_change ev3).2 (zm_X11_change ev3).1 (by decide) rfl (Or.inr (tg_le hE (le_X11_note_27 hf))) mw_8_7 mw_8_8 mw_8_9 mw_1_2 mw_8_10 yk_X11_change (by decide) (by decide) rfl (Nat.le_of_ble_eq_true rfl) rfl dX11_note_24 ?_
      refine z_lv [(0, .ref l0), (1, .int l1), (2, .int l2), (3, .long l3)] [1, 2, 3, 4] rfl ?_
      exact zb_X11_note_27 hE hf
    · refine z_aload_n 1 dX11_note_16 rfl rfl ?_
      refine z_iload 0 dX11_note_17 rfl ?_
      obtain ⟨v4, ev4, hf⟩ := ob hf
      refine z_cVi (ci := 11) (T := TX11) (N := 14) (As := [.int v2]) (rest := []) (zm_X11_refuse ev4).2 (zm_X11_refuse ev4).1 (by decide) rfl (Or.inl rfl) mw_7_22 mw_7_23 mw_8_0 mw_1_2 mw_8_1 yk_X11_refuse (by decide) (by decide) rfl (Nat.le_of_ble_eq_true rfl) rfl dX11_note_19 ?_
      cases hf
      exact z_ireturn hE rfl dX11_note_22
  · cases hf
set_option maxRecDepth 20000 in
theorem le_X11_none_23 {N : Nat} {r : Int32 × AS}  {l0 : Nat} {s : AS} (hf : f_X11_none_23 N l0 s = some r) : Le s r.2 := by
  unfold f_X11_none_23 at hf
  obtain ⟨v4, -, hf⟩ := ob hf
  cases hf
  exact Le.rf
set_option maxRecDepth 20000 in
theorem zb_X11_none_23 {N : Nat} {r : Int32 × AS} {E : EV} (hE : TG E (some (.int r.1)) r.2)  {l0 : Nat} {s : AS} (hf : f_X11_none_23 N l0 s = some r) : Z E yX11_none cX11_none 4 (some .int) 7 s 23 [(0, .ref l0)] [] := by
  unfold f_X11_none_23 at hf
  refine z_aload_n 0 dX11_none_23 rfl rfl ?_
  refine z_bipush (-2) (-2) dX11_none_24 (by decide) ?_
  obtain ⟨v4, ev4, hf⟩ := ob hf
  refine z_cVi (ci := 11) (T := TX11) (N := 14) (As := [.int (-2 : Int32)]) (rest := []) (zm_X11_refuse ev4).2 (zm_X11_refuse ev4).1 (by decide) rfl (Or.inl rfl) mw_7_22 mw_7_23 mw_8_0 mw_1_2 mw_8_1 yk_X11_refuse (by decide) (by decide) rfl (Nat.le_of_ble_eq_true rfl) rfl dX11_none_26 ?_
  cases hf
  exact z_ireturn hE rfl dX11_none_29
set_option maxRecDepth 20000 in
theorem le_X11_none_49 {N : Nat} {r : Int32 × AS}  {t0 : Int32} {s : AS} (hf : f_X11_none_49 N t0 s = some r) : Le s r.2 := by
  unfold f_X11_none_49 at hf
  cases hf
  exact Le.rf
set_option maxRecDepth 20000 in
theorem zb_X11_none_49 {N : Nat} {r : Int32 × AS} {E : EV} (hE : TG E (some (.int r.1)) r.2)  {t0 : Int32} {s : AS} (hf : f_X11_none_49 N t0 s = some r) : Z E yX11_none cX11_none 4 (some .int) 7 s 49 [] [.int t0] := by
  unfold f_X11_none_49 at hf
  cases hf
  exact z_ireturn hE rfl dX11_none_49
set_option maxRecDepth 20000 in
theorem le_X11_none_46 {N : Nat} {r : Int32 × AS}  {t0 : Nat} {t1 : Int32} {t2 : Int32} {t3 : Int64} {s : AS} (hf : f_X11_none_46 N t0 t1 t2 t3 s = some r) : Le s r.2 := by
  unfold f_X11_none_46 at hf
  obtain ⟨v5, ev5, hf⟩ := ob hf
  refine Le.of (t := (s.1, s.2)) rfl ((lm_X11_note ev5).tr ?_)
  exact Le.via (le_X11_none_49 hf) rfl
set_option maxRecDepth 20000 in
theorem zb_X11_none_46 {N : Nat} {r : Int32 × AS} {E : EV} (hE : TG E (some (.int r.1)) r.2)  {t0 : Nat} {t1 : Int32} {t2 : Int32} {t3 : Int64} {s : AS} (hf : f_X11_none_46 N t0 t1 t2 t3 s = some r) : Z E yX11_none cX11_none 4 (some .int) 7 s 46 [] [.long t3, .int t2, .int t1, .ref t0] := by
  unfold f_X11_none_46 at hf
  obtain ⟨v5, ev5, hf⟩ := ob hf
  refine z_cVi (ci := 11) (T := TX11) (N := 14) (As := [.int t1, .int t2, .long t3]) (rest := []) (zm_X11_note ev5).2 (zm_X11_note ev5).1 (by decide) rfl (Or.inr (tg_le hE (le_X11_none_49 hf))) mw_22_14 mw_22_15 mw_22_16 mw_1_2 mw_22_17 yk_X11_note (by decide) (by decide) rfl (Nat.le_of_ble_eq_true rfl) rfl dX11_none_46 ?_
  exact zb_X11_none_49 hE hf
set_option maxRecDepth 20000 in
theorem lm_X11_none {N : Nat} {s : AS} {l0 : Nat} {l1 : Int32} {l2 : Int32} {l3 : Int32} {r : Int32 × AS} (hf : f_X11_none N l0 l1 l2 l3 s = some r) : Le s r.2 := by
  unfold f_X11_none at hf
  split at hf
  · skip
    obtain ⟨v1, -, hf⟩ := ob hf
    obtain ⟨v2, -, hf⟩ := ob hf
    obtain ⟨v3, -, hf⟩ := ob hf
    split at hf
    · exact Le.via (le_X11_none_23 hf) rfl
    · split at hf
      · exact Le.via (le_X11_none_23 hf) rfl
      · split at hf
        · split at hf
          · exact Le.via (le_X11_none_46 hf) rfl
          · exact Le.via (le_X11_none_46 hf) rfl
        · exact Le.via (le_X11_none_23 hf) rfl
  · cases hf
set_option maxRecDepth 20000 in
theorem zm_X11_none {N : Nat} {s : AS} {l0 : Nat} {l1 : Int32} {l2 : Int32} {l3 : Int32} {r : Int32 × AS} (hf : f_X11_none N l0 l1 l2 l3 s = some r) : isO s.1 l0 11 ∧ ∀ (l : Launch) (G : GG), Mt l G yX11_none cX11_none 4 (some .int) 7 [.ref l0, .int l1, .int l2, .int l3] s (some (.int r.1)) r.2 := by
  have hf0 := hf
  unfold f_X11_none at hf
  split at hf
  · rename_i hO
    refine ⟨hO, fun l G => mt_of (Or.inl (by decide)) (Nat.le_of_ble_eq_true rfl) (lm_X11_none hf0) (fun E hE => ?_)⟩
    show Z E yX11_none cX11_none 4 (some .int) 7 s 0 [(0, .ref l0), (1, .int l1), (2, .int l2), (3, .int l3)] []
    refine z_aload_n 0 dX11_none_0 rfl rfl ?_
    refine z_gP (ci := 11) (k := 1) (C := RX11) (T := TX11) (N := 14) rfl inlX11 (by decide) mw_1_19 (fun _ _ _ _ h9 => h9) hf (by decide) rfl dX11_none_1  (fun v1 hf => ?_)
    refine z_gP (ci := 1) (k := 2) (C := RX1) (T := TX1) (N := 8) rfl inlX1 (by decide) mw_19_21 (fun _ _ _ _ h9 => h9) hf (by decide) rfl dX11_none_4  (fun v2 hf => ?_)
    refine z_iload_n 1 dX11_none_7 rfl rfl ?_
    obtain ⟨v3, ev3, hf⟩ := ob hf
    refine z_cVi (ci := 8) (T := TX8) (N := 2) (As := [.int l1]) (rest := []) (zm_X8_has ev3).2 (zm_X8_has ev3).1 (by decide) rfl (Or.inl rfl) mw_13_22 mw_13_23 mw_14_0 mw_3_13 mw_14_1 yk_X8_has (by decide) (by decide) rfl (Nat.le_of_ble_eq_true rfl) rfl dX11_none_8 ?_
    refine z_if_eq 23 hf dX11_none_11 (by decide) (fun hf => ?_) (fun hf => ?_)
    · refine z_lv [(0, .ref l0)] [0] rfl ?_
      exact zb_X11_none_23 hE hf
    · refine z_iload_n 3 dX11_none_14 rfl rfl ?_
      refine z_if_lt 23 hf dX11_none_15 (by decide) (fun hf => ?_) (fun hf => ?_)
      · refine z_lv [(0, .ref l0)] [0] rfl ?_
        exact zb_X11_none_23 hE hf
      · refine z_iload_n 3 dX11_none_18 rfl rfl ?_
        refine z_iconst 1 1 dX11_none_19 (by decide) ?_
        refine z_icmp_le 30 hf dX11_none_20 (by decide) (fun hf => ?_) (fun hf => ?_)
        · refine z_aload_n 0 dX11_none_30 rfl rfl ?_
          refine z_iload_n 1 dX11_none_31 rfl rfl ?_
          refine z_iload_n 2 dX11_none_32 rfl rfl ?_
          refine z_iload_n 3 dX11_none_33 rfl rfl ?_
          refine z_if_ne 43 hf dX11_none_34 (by decide) (fun hf => ?_) (fun hf => ?_)
          · refine z_ldc2 mw_23_17 dX11_none_43 ?_
            refine z_lv [] [] rfl ?_
            exact zb_X11_none_46 hE hf
          · refine z_ldc2 mw_23_16 dX11_none_37 ?_
            refine z_goto 46 dX11_none_40 (by decide) ?_
            refine z_lv [] [] rfl ?_
            exact zb_X11_none_46 hE hf
        · refine z_lv [(0, .ref l0)] [0] rfl ?_
          exact zb_X11_none_23 hE hf
  · cases hf
set_option maxRecDepth 20000 in
theorem zb_X4_oddAt_22 {N : Nat} {sh : Sh} {d : Dt} {r : Int32} {E : EV} (hE : TG E (some (.int r)) (sh, d))  {t0 : Int32} (hf : f_X4_oddAt_22 N sh t0 d = some r) : Z E yX4_oddAt cX4_oddAt 2 (some .int) 1 (sh, d) 22 [] [.int t0] := by
  unfold f_X4_oddAt_22 at hf
  cases hf
  exact z_ireturn hE rfl dX4_oddAt_22
set_option maxRecDepth 20000 in
theorem zb_X4_oddAt_21 {N : Nat} {sh : Sh} {d : Dt} {r : Int32} {E : EV} (hE : TG E (some (.int r)) (sh, d))   (hf : f_X4_oddAt_21 N sh  d = some r) : Z E yX4_oddAt cX4_oddAt 2 (some .int) 1 (sh, d) 21 [] [] := by
  unfold f_X4_oddAt_21 at hf
  refine z_iconst (-1) (-1) dX4_oddAt_21 (by decide) ?_
  exact zb_X4_oddAt_22 hE hf
set_option maxRecDepth 20000 in
theorem zm_X4_oddAt {N : Nat} {sh : Sh} {d : Dt} {l0 : Nat} {l1 : Int32} {r : Int32} (hf : f_X4_oddAt N sh l0 l1 d = some r) : isO sh l0 4 ∧ ∀ (l : Launch) (G : GG), Mt l G yX4_oddAt cX4_oddAt 2 (some .int) 1 [.ref l0, .int l1] (sh, d) (some (.int r)) (sh, d) := by
  have hf0 := hf
  unfold f_X4_oddAt at hf
  split at hf
  · rename_i hO
    refine ⟨hO, fun l G => mt_of (Or.inl (by decide)) (Nat.le_of_ble_eq_true rfl) Le.rf (fun E hE => ?_)⟩
    show Z E yX4_oddAt cX4_oddAt 2 (some .int) 1 (sh, d) 0 [(0, .ref l0), (1, .int l1)] []
    refine z_iload_n 1 dX4_oddAt_0 rfl rfl ?_
    refine z_if_lt 21 hf dX4_oddAt_1 (by decide) (fun hf => ?_) (fun hf => ?_)
    · refine z_lv [] [] rfl ?_
      exact zb_X4_oddAt_21 hE hf
    · refine z_iload_n 1 dX4_oddAt_4 rfl rfl ?_
      refine z_aload_n 0 dX4_oddAt_5 rfl rfl ?_
      refine z_gI (ci := 4) (k := 3) (C := RX4) (T := TX4) (N := 12) rfl inlX4 (by decide) mw_5_1 (fun _ _ _ _ h9 => h9) hf (by decide) rfl dX4_oddAt_6  (fun v1 hf => ?_)
      refine z_icmp_ge 21 hf dX4_oddAt_9 (by decide) (fun hf => ?_) (fun hf => ?_)
      · refine z_lv [] [] rfl ?_
        exact zb_X4_oddAt_21 hE hf
      · refine z_aload_n 0 dX4_oddAt_12 rfl rfl ?_
        refine z_gP (ci := 4) (k := 2) (C := RX4) (T := TX4) (N := 12) rfl inlX4 (by decide) mw_5_0 (fun _ _ _ _ h9 => h9) hf (by decide) rfl dX4_oddAt_13  (fun v2 hf => ?_)
        refine z_iload_n 1 dX4_oddAt_16 rfl rfl ?_
        refine z_aI hf dX4_oddAt_17  (fun v3 hf => ?_)
        refine z_goto 22 dX4_oddAt_18 (by decide) ?_
        refine z_lv [] [] rfl ?_
        exact zb_X4_oddAt_22 hE hf
  · cases hf
set_option maxRecDepth 20000 in
theorem zm_X11_odd {N : Nat} {sh : Sh} {d : Dt} {l0 : Nat} {l1 : Int32} {r : Int32 × Dt} (hf : f_X11_odd N sh l0 l1 d = some r) : isO sh l0 11 ∧ ∀ (l : Launch) (G : GG), Mt l G yX11_odd cX11_odd 2 (some .int) 5 [.ref l0, .int l1] (sh, d) (some (.int r.1)) (sh, r.2) := by
  have hf0 := hf
  unfold f_X11_odd at hf
  split at hf
  · rename_i hO
    refine ⟨hO, fun l G => mt_of (Or.inl (by decide)) (Nat.le_of_ble_eq_true rfl) Le.rf (fun E hE => ?_)⟩
    show Z E yX11_odd cX11_odd 2 (some .int) 5 (sh, d) 0 [(0, .ref l0), (1, .int l1)] []
    refine z_aload_n 0 dX11_odd_0 rfl rfl ?_
    refine z_gP (ci := 11) (k := 4) (C := RX11) (T := TX11) (N := 14) rfl inlX11 (by decide) mw_2_4 (fun _ _ _ _ h9 => h9) hf (by decide) rfl dX11_odd_1  (fun v1 hf => ?_)
    obtain ⟨v2, ev2, hf⟩ := ob hf
    refine z_cVi (ci := 4) (T := TX4) (N := 12) (As := []) (rest := []) (zm_X4_list ev2).2 (zm_X4_list ev2).1 (by decide) rfl (Or.inl rfl) mw_39_9 mw_39_10 mw_39_11 mw_2_3 mw_39_12 yk_X4_list (by decide) (by decide) rfl (Nat.le_of_ble_eq_true rfl) rfl dX11_odd_4 ?_
    refine z_pop dX11_odd_7 rfl ?_
    refine z_aload_n 0 dX11_odd_8 rfl rfl ?_
    refine z_aload_n 0 dX11_odd_9 rfl rfl ?_
    refine z_gP (ci := 11) (k := 4) (C := RX11) (T := TX11) (N := 14) rfl inlX11 (by decide) mw_2_4 (fun _ _ _ _ h9 => h9) hf (by decide) rfl dX11_odd_10  (fun v3 hf => ?_)
    refine z_iload_n 1 dX11_odd_13 rfl rfl ?_
    obtain ⟨v4, ev4, hf⟩ := ob hf
    refine z_cVi (ci := 4) (T := TX4) (N := 12) (As := [.int l1]) (rest := [.ref l0]) (zm_X4_oddAt ev4).2 (zm_X4_oddAt ev4).1 (by decide) rfl (Or.inl rfl) mw_40_0 mw_40_1 mw_40_2 mw_2_3 mw_40_3 yk_X4_oddAt (by decide) (by decide) rfl (Nat.le_of_ble_eq_true rfl) rfl dX11_odd_14 ?_
    obtain ⟨v5, ev5, hf⟩ := ob hf
    refine z_cVi (ci := 11) (T := TX11) (N := 14) (As := [.int v4]) (rest := []) (zm_X11_answer ev5).2 (zm_X11_answer ev5).1 (by decide) rfl (Or.inl rfl) mw_11_2 mw_11_3 mw_11_4 mw_1_2 mw_11_5 yk_X11_answer (by decide) (by decide) rfl (Nat.le_of_ble_eq_true rfl) rfl dX11_odd_17 ?_
    cases hf
    exact z_ireturn hE rfl dX11_odd_20
  · cases hf
set_option maxRecDepth 20000 in
theorem le_X11_oneWay_15 {N : Nat} {r : Int32 × AS}  {t0 : Int32} {s : AS} (hf : f_X11_oneWay_15 N t0 s = some r) : Le s r.2 := by
  unfold f_X11_oneWay_15 at hf
  cases hf
  exact Le.rf
set_option maxRecDepth 20000 in
theorem zb_X11_oneWay_15 {N : Nat} {r : Int32 × AS} {E : EV} (hE : TG E (some (.int r.1)) r.2)  {t0 : Int32} {s : AS} (hf : f_X11_oneWay_15 N t0 s = some r) : Z E yX11_oneWay cX11_oneWay 3 (some .int) 7 s 15 [] [.int t0] := by
  unfold f_X11_oneWay_15 at hf
  cases hf
  exact z_ireturn hE rfl dX11_oneWay_15
set_option maxRecDepth 20000 in
theorem le_X11_oneWay_12 {N : Nat} {r : Int32 × AS}  {t0 : Nat} {t1 : Int32} {t2 : Int32} {t3 : Int32} {s : AS} (hf : f_X11_oneWay_12 N t0 t1 t2 t3 s = some r) : Le s r.2 := by
  unfold f_X11_oneWay_12 at hf
  obtain ⟨v1, ev1, hf⟩ := ob hf
  refine Le.of (t := (s.1, s.2)) rfl ((lm_X11_become ev1).tr ?_)
  exact Le.via (le_X11_oneWay_15 hf) rfl
set_option maxRecDepth 20000 in
theorem zb_X11_oneWay_12 {N : Nat} {r : Int32 × AS} {E : EV} (hE : TG E (some (.int r.1)) r.2)  {t0 : Nat} {t1 : Int32} {t2 : Int32} {t3 : Int32} {s : AS} (hf : f_X11_oneWay_12 N t0 t1 t2 t3 s = some r) : Z E yX11_oneWay cX11_oneWay 3 (some .int) 7 s 12 [] [.int t3, .int t2, .int t1, .ref t0] := by
  unfold f_X11_oneWay_12 at hf
  obtain ⟨v1, ev1, hf⟩ := ob hf
  refine z_cVi (ci := 11) (T := TX11) (N := 14) (As := [.int t1, .int t2, .int t3]) (rest := []) (zm_X11_become ev1).2 (zm_X11_become ev1).1 (by decide) rfl (Or.inr (tg_le hE (le_X11_oneWay_15 hf))) mw_13_18 mw_13_19 mw_13_20 mw_1_2 mw_13_21 yk_X11_become (by decide) (by decide) rfl (Nat.le_of_ble_eq_true rfl) rfl dX11_oneWay_12 ?_
  exact zb_X11_oneWay_15 hE hf
set_option maxRecDepth 20000 in
theorem lm_X11_oneWay {N : Nat} {s : AS} {l0 : Nat} {l1 : Int32} {l2 : Int32} {r : Int32 × AS} (hf : f_X11_oneWay N l0 l1 l2 s = some r) : Le s r.2 := by
  unfold f_X11_oneWay at hf
  split at hf
  · skip
    split at hf
    · exact Le.via (le_X11_oneWay_12 hf) rfl
    · exact Le.via (le_X11_oneWay_12 hf) rfl
  · cases hf
set_option maxRecDepth 20000 in
theorem zm_X11_oneWay {N : Nat} {s : AS} {l0 : Nat} {l1 : Int32} {l2 : Int32} {r : Int32 × AS} (hf : f_X11_oneWay N l0 l1 l2 s = some r) : isO s.1 l0 11 ∧ ∀ (l : Launch) (G : GG), Mt l G yX11_oneWay cX11_oneWay 3 (some .int) 7 [.ref l0, .int l1, .int l2] s (some (.int r.1)) r.2 := by
  have hf0 := hf
  unfold f_X11_oneWay at hf
  split at hf
  · rename_i hO
    refine ⟨hO, fun l G => mt_of (Or.inl (by decide)) (Nat.le_of_ble_eq_true rfl) (lm_X11_oneWay hf0) (fun E hE => ?_)⟩
    show Z E yX11_oneWay cX11_oneWay 3 (some .int) 7 s 0 [(0, .ref l0), (1, .int l1), (2, .int l2)] []
    refine z_aload_n 0 dX11_oneWay_0 rfl rfl ?_
    refine z_iload_n 1 dX11_oneWay_1 rfl rfl ?_
    refine z_iconst 5 5 dX11_oneWay_2 (by decide) ?_
    refine z_iload_n 2 dX11_oneWay_3 rfl rfl ?_
    refine z_if_eq 11 hf dX11_oneWay_4 (by decide) (fun hf => ?_) (fun hf => ?_)
    · refine z_iconst 0 0 dX11_oneWay_11 (by decide) ?_
      refine z_lv [] [] rfl ?_
      exact zb_X11_oneWay_12 hE hf
    · refine z_iconst 1 1 dX11_oneWay_7 (by decide) ?_
      refine z_goto 12 dX11_oneWay_8 (by decide) ?_
      refine z_lv [] [] rfl ?_
      exact zb_X11_oneWay_12 hE hf
  · cases hf
set_option maxRecDepth 20000 in
theorem zb_X1_dropPart_35 {N : Nat} {sh : Sh} {r : Dt} {E : EV} (hE : TG E none (sh, r))   {d : Dt} (hf : f_X1_dropPart_35 N sh  d = some r) : Z E yX1_dropPart cX1_dropPart 3 none 2 (sh, d) 35 [] [] := by
  unfold f_X1_dropPart_35 at hf
  cases hf
  exact z_return hE rfl dX1_dropPart_35
set_option maxRecDepth 20000 in
theorem zb_X1_dropPart_29 {N : Nat} {sh : Sh} {k2 : Nat → Int32 → Int32 → Dt → Option Dt} {r : Dt} {E : EV} (hE : TG E none (sh, r)) (hk2 : ∀ (l0 : Nat) (l1 : Int32) (l2 : Int32) (d : Dt), k2 l0 l1 l2 d = some r → Z E yX1_dropPart cX1_dropPart 3 none 2 (sh, d) 2 [(0, .ref l0), (1, .int l1), (2, .int l2)] []) {l0 : Nat} {l1 : Int32} {l2 : Int32} {d : Dt} (hf : f_X1_dropPart_29 N sh k2 l0 l1 l2 d = some r) : Z E yX1_dropPart cX1_dropPart 3 none 2 (sh, d) 29 [(0, .ref l0), (1, .int l1), (2, .int l2)] [] := by
  unfold f_X1_dropPart_29 at hf
  refine z_iinc [(2, .int (l2 + 1)), (0, .ref l0), (1, .int l1)] 2 (l2 + 1) dX1_dropPart_29 rfl rfl (by decide) rfl ?_
  refine z_goto 2 dX1_dropPart_32 (by decide) ?_
  refine z_lv [(0, .ref l0), (1, .int l1), (2, .int (l2 + 1))] [1, 2, 0] rfl ?_
  exact hk2 _ _ _ _ hf
set_option maxRecDepth 20000 in
theorem zg_X1_dropPart_2 {N : Nat} {sh : Sh} {r : Dt} {k2 : Nat → Int32 → Int32 → Dt → Option Dt} {E : EV} (hE : TG E none (sh, r))  (hk2 : ∀ (l0 : Nat) (l1 : Int32) (l2 : Int32) (d : Dt), k2 l0 l1 l2 d = some r → Z E yX1_dropPart cX1_dropPart 3 none 2 (sh, d) 2 [(0, .ref l0), (1, .int l1), (2, .int l2)] []) {l0 : Nat} {l1 : Int32} {l2 : Int32} {d : Dt} (hf : g_X1_dropPart_2 N sh k2 l0 l1 l2 d = some r) : Z E yX1_dropPart cX1_dropPart 3 none 2 (sh, d) 2 [(0, .ref l0), (1, .int l1), (2, .int l2)] [] := by
  unfold g_X1_dropPart_2 at hf
  refine z_iload_n 2 dX1_dropPart_2 rfl rfl ?_
  refine z_bipush 9 9 dX1_dropPart_3 (by decide) ?_
  refine z_icmp_ge 35 hf dX1_dropPart_5 (by decide) (fun hf => ?_) (fun hf => ?_)
  · refine z_lv [] [] rfl ?_
    exact zb_X1_dropPart_35 hE hf
  · refine z_iload_n 2 dX1_dropPart_8 rfl rfl ?_
    refine z_iconst 5 5 dX1_dropPart_9 (by decide) ?_
    refine z_icmp_eq 29 hf dX1_dropPart_10 (by decide) (fun hf => ?_) (fun hf => ?_)
    · exact zb_X1_dropPart_29 hE hk2 hf
    · refine z_iload_n 2 dX1_dropPart_13 rfl rfl ?_
      refine z_bipush 6 6 dX1_dropPart_14 (by decide) ?_
      refine z_icmp_eq 29 hf dX1_dropPart_16 (by decide) (fun hf => ?_) (fun hf => ?_)
      · exact zb_X1_dropPart_29 hE hk2 hf
      · refine z_aload_n 0 dX1_dropPart_19 rfl rfl ?_
        refine z_gP (ci := 1) (k := 3) (C := RX1) (T := TX1) (N := 8) rfl inlX1 (by decide) mw_3_16 (fun _ _ _ _ h9 => h9) hf (by decide) rfl dX1_dropPart_20  (fun v1 hf => ?_)
        refine z_iload_n 1 dX1_dropPart_23 rfl rfl ?_
        refine z_iload_n 2 dX1_dropPart_24 rfl rfl ?_
        refine z_iconst 0 0 dX1_dropPart_25 (by decide) ?_
        obtain ⟨v2, ev2, hf⟩ := ob hf
        refine z_cVv (ci := 8) (T := TX8) (N := 2) (As := [.int l1, .int l2, .int (0 : Int32)]) (rest := []) (zm_X8_put ev2).2 (zm_X8_put ev2).1 (by decide) rfl (Or.inl rfl) mw_20_3 mw_12_23 mw_13_0 mw_3_13 mw_13_1 yk_X8_put (by decide) (by decide) rfl (Nat.le_of_ble_eq_true rfl) rfl dX1_dropPart_26 ?_
        exact zb_X1_dropPart_29 hE hk2 hf
set_option maxRecDepth 20000 in
theorem zb_X1_dropPart_2 {N : Nat} {sh : Sh} {r : Dt} {E : EV} (hE : TG E none (sh, r))  : ∀ (n : Nat) (l0 : Nat) (l1 : Int32) (l2 : Int32) (d : Dt), f_X1_dropPart_2 N sh n l0 l1 l2 d = some r → Z E yX1_dropPart cX1_dropPart 3 none 2 (sh, d) 2 [(0, .ref l0), (1, .int l1), (2, .int l2)] [] := by
  intro n
  induction n with
  | zero => intro l0 l1 l2 d hf; cases hf
  | succ n ih => intro l0 l1 l2 d hf; exact zg_X1_dropPart_2 hE ih hf
set_option maxRecDepth 20000 in
theorem zm_X1_dropPart {N : Nat} {sh : Sh} {d : Dt} {l0 : Nat} {l1 : Int32} {r : Dt} (hf : f_X1_dropPart N sh l0 l1 d = some r) : isO sh l0 1 ∧ ∀ (l : Launch) (G : GG), Mt l G yX1_dropPart cX1_dropPart 3 none 2 [.ref l0, .int l1] (sh, d) none (sh, r) := by
  have hf0 := hf
  unfold f_X1_dropPart at hf
  split at hf
  · rename_i hO
    refine ⟨hO, fun l G => mt_of (Or.inl (by decide)) (Nat.le_of_ble_eq_true rfl) Le.rf (fun E hE => ?_)⟩
    show Z E yX1_dropPart cX1_dropPart 3 none 2 (sh, d) 0 [(0, .ref l0), (1, .int l1)] []
    refine z_iconst 0 0 dX1_dropPart_0 (by decide) ?_
    refine z_istore_n [(2, .int (0 : Int32)), (0, .ref l0), (1, .int l1)] dX1_dropPart_1 rfl (by decide) rfl ?_
    refine z_lv [(0, .ref l0), (1, .int l1), (2, .int (0 : Int32))] [1, 2, 0] rfl ?_
    exact zb_X1_dropPart_2 hE N _ _ _ _ hf
  · cases hf
set_option maxRecDepth 20000 in
theorem zm_X1_sendOut {N : Nat} {sh : Sh} {d : Dt} {l0 : Nat} {l1 : Int32} {r : Dt} (hf : f_X1_sendOut N sh l0 l1 d = some r) : isO sh l0 1 ∧ ∀ (l : Launch) (G : GG), Mt l G yX1_sendOut cX1_sendOut 2 none 3 [.ref l0, .int l1] (sh, d) none (sh, r) := by
  have hf0 := hf
  unfold f_X1_sendOut at hf
  split at hf
  · rename_i hO
    refine ⟨hO, fun l G => mt_of (Or.inl (by decide)) (Nat.le_of_ble_eq_true rfl) Le.rf (fun E hE => ?_)⟩
    show Z E yX1_sendOut cX1_sendOut 2 none 3 (sh, d) 0 [(0, .ref l0), (1, .int l1)] []
    refine z_aload_n 0 dX1_sendOut_0 rfl rfl ?_
    refine z_iload_n 1 dX1_sendOut_1 rfl rfl ?_
    obtain ⟨v1, ev1, hf⟩ := ob hf
    refine z_cVv (ci := 1) (T := TX1) (N := 8) (As := [.int l1]) (rest := []) (zm_X1_dropPart ev1).2 (zm_X1_dropPart ev1).1 (by decide) rfl (Or.inl rfl) mw_32_6 mw_32_7 mw_32_8 mw_1_18 mw_32_9 yk_X1_dropPart (by decide) (by decide) rfl (Nat.le_of_ble_eq_true rfl) rfl dX1_sendOut_2 ?_
    refine z_aload_n 0 dX1_sendOut_5 rfl rfl ?_
    refine z_gP (ci := 1) (k := 3) (C := RX1) (T := TX1) (N := 8) rfl inlX1 (by decide) mw_3_16 (fun _ _ _ _ h9 => h9) hf (by decide) rfl dX1_sendOut_6  (fun v2 hf => ?_)
    refine z_iload_n 1 dX1_sendOut_9 rfl rfl ?_
    refine z_bipush 6 6 dX1_sendOut_10 (by decide) ?_
    refine z_iconst (-1) (-1) dX1_sendOut_12 (by decide) ?_
    obtain ⟨v3, ev3, hf⟩ := ob hf
    refine z_cVv (ci := 8) (T := TX8) (N := 2) (As := [.int l1, .int (6 : Int32), .int (-1 : Int32)]) (rest := []) (zm_X8_put ev3).2 (zm_X8_put ev3).1 (by decide) rfl (Or.inl rfl) mw_20_3 mw_12_23 mw_13_0 mw_3_13 mw_13_1 yk_X8_put (by decide) (by decide) rfl (Nat.le_of_ble_eq_true rfl) rfl dX1_sendOut_13 ?_
    cases hf
    exact z_return hE rfl dX1_sendOut_16
  · cases hf
set_option maxRecDepth 20000 in
theorem le_X11_out_52 {N : Nat} {r : Int32 × AS}  {t0 : Nat} {t1 : Int32} {s : AS} (hf : f_X11_out_52 N t0 t1 s = some r) : Le s r.2 := by
  unfold f_X11_out_52 at hf
  obtain ⟨v10, -, hf⟩ := ob hf
  cases hf
  exact Le.rf
set_option maxRecDepth 20000 in
theorem zb_X11_out_52 {N : Nat} {r : Int32 × AS} {E : EV} (hE : TG E (some (.int r.1)) r.2)  {t0 : Nat} {t1 : Int32} {s : AS} (hf : f_X11_out_52 N t0 t1 s = some r) : Z E yX11_out cX11_out 3 (some .int) 6 s 52 [] [.int t1, .ref t0] := by
  unfold f_X11_out_52 at hf
  obtain ⟨v10, ev10, hf⟩ := ob hf
  refine z_cVi (ci := 11) (T := TX11) (N := 14) (As := [.int t1]) (rest := []) (zm_X11_answer ev10).2 (zm_X11_answer ev10).1 (by decide) rfl (Or.inl rfl) mw_11_2 mw_11_3 mw_11_4 mw_1_2 mw_11_5 yk_X11_answer (by decide) (by decide) rfl (Nat.le_of_ble_eq_true rfl) rfl dX11_out_52 ?_
  cases hf
  exact z_ireturn hE rfl dX11_out_55
set_option maxRecDepth 20000 in
theorem le_X11_out_34 {N : Nat} {r : Int32 × AS}  {l0 : Nat} {l1 : Int32} {l2 : Int32} {s : AS} (hf : f_X11_out_34 N l0 l1 l2 s = some r) : Le s r.2 := by
  unfold f_X11_out_34 at hf
  obtain ⟨v8, -, hf⟩ := ob hf
  obtain ⟨v9, -, hf⟩ := ob hf
  split at hf
  · exact Le.via (le_X11_out_52 hf) rfl
  · exact Le.via (le_X11_out_52 hf) rfl
set_option maxRecDepth 20000 in
theorem zb_X11_out_34 {N : Nat} {r : Int32 × AS} {E : EV} (hE : TG E (some (.int r.1)) r.2)  {l0 : Nat} {l1 : Int32} {l2 : Int32} {s : AS} (hf : f_X11_out_34 N l0 l1 l2 s = some r) : Z E yX11_out cX11_out 3 (some .int) 6 s 34 [(0, .ref l0), (1, .int l1), (2, .int l2)] [] := by
  unfold f_X11_out_34 at hf
  refine z_aload_n 0 dX11_out_34 rfl rfl ?_
  refine z_gP (ci := 11) (k := 1) (C := RX11) (T := TX11) (N := 14) rfl inlX11 (by decide) mw_1_19 (fun _ _ _ _ h9 => h9) hf (by decide) rfl dX11_out_35  (fun v8 hf => ?_)
  refine z_iload_n 1 dX11_out_38 rfl rfl ?_
  obtain ⟨v9, ev9, hf⟩ := ob hf
  refine z_cVv (ci := 1) (T := TX1) (N := 8) (As := [.int l1]) (rest := []) (zm_X1_sendOut ev9).2 (zm_X1_sendOut ev9).1 (by decide) rfl (Or.inl rfl) mw_32_2 mw_32_3 mw_32_4 mw_1_18 mw_32_5 yk_X1_sendOut (by decide) (by decide) rfl (Nat.le_of_ble_eq_true rfl) rfl dX11_out_39 ?_
  refine z_aload_n 0 dX11_out_42 rfl rfl ?_
  refine z_iload_n 2 dX11_out_43 rfl rfl ?_
  refine z_if_eq 51 hf dX11_out_44 (by decide) (fun hf => ?_) (fun hf => ?_)
  · refine z_iconst 1 1 dX11_out_51 (by decide) ?_
    refine z_lv [] [] rfl ?_
    exact zb_X11_out_52 hE hf
  · refine z_iconst 0 0 dX11_out_47 (by decide) ?_
    refine z_goto 52 dX11_out_48 (by decide) ?_
    refine z_lv [] [] rfl ?_
    exact zb_X11_out_52 hE hf
set_option maxRecDepth 20000 in
theorem lm_X11_out {N : Nat} {s : AS} {l0 : Nat} {l1 : Int32} {r : Int32 × AS} (hf : f_X11_out N l0 l1 s = some r) : Le s r.2 := by
  unfold f_X11_out at hf
  split at hf
  · skip
    obtain ⟨v1, -, hf⟩ := ob hf
    obtain ⟨v2, -, hf⟩ := ob hf
    obtain ⟨v3, -, hf⟩ := ob hf
    split at hf
    · obtain ⟨v4, -, hf⟩ := ob hf
      obtain ⟨v5, -, hf⟩ := ob hf
      obtain ⟨v6, ev6, hf⟩ := ob hf
      refine Le.of (t := (s.1, s.2)) rfl ((lm_X11_change ev6).tr ?_)
      exact Le.via (le_X11_out_34 hf) rfl
    · obtain ⟨v7, -, hf⟩ := ob hf
      cases hf
      exact Le.rf
  · cases hf
set_option maxRecDepth 20000 in
theorem zm_X11_out {N : Nat} {s : AS} {l0 : Nat} {l1 : Int32} {r : Int32 × AS} (hf : f_X11_out N l0 l1 s = some r) : isO s.1 l0 11 ∧ ∀ (l : Launch) (G : GG), Mt l G yX11_out cX11_out 3 (some .int) 6 [.ref l0, .int l1] s (some (.int r.1)) r.2 := by
  have hf0 := hf
  unfold f_X11_out at hf
  split at hf
  · rename_i hO
    refine ⟨hO, fun l G => mt_of (Or.inl (by decide)) (Nat.le_of_ble_eq_true rfl) (lm_X11_out hf0) (fun E hE => ?_)⟩
    show Z E yX11_out cX11_out 3 (some .int) 6 s 0 [(0, .ref l0), (1, .int l1)] []
    refine z_aload_n 0 dX11_out_0 rfl rfl ?_
    refine z_gP (ci := 11) (k := 1) (C := RX11) (T := TX11) (N := 14) rfl inlX11 (by decide) mw_1_19 (fun _ _ _ _ h9 => h9) hf (by decide) rfl dX11_out_1  (fun v1 hf => ?_)
    refine z_gP (ci := 1) (k := 3) (C := RX1) (T := TX1) (N := 8) rfl inlX1 (by decide) mw_29_16 (fun _ _ _ _ h9 => h9) hf (by decide) rfl dX11_out_4  (fun v2 hf => ?_)
    refine z_iload_n 1 dX11_out_7 rfl rfl ?_
    obtain ⟨v3, ev3, hf⟩ := ob hf
    refine z_cVi (ci := 8) (T := TX8) (N := 2) (As := [.int l1]) (rest := []) (zm_X8_has ev3).2 (zm_X8_has ev3).1 (by decide) rfl (Or.inl rfl) mw_13_22 mw_13_23 mw_14_0 mw_3_13 mw_14_1 yk_X8_has (by decide) (by decide) rfl (Nat.le_of_ble_eq_true rfl) rfl dX11_out_8 ?_
    refine z_if_ne 21 hf dX11_out_11 (by decide) (fun hf => ?_) (fun hf => ?_)
    · refine z_aload_n 0 dX11_out_21 rfl rfl ?_
      refine z_gP (ci := 11) (k := 1) (C := RX11) (T := TX11) (N := 14) rfl inlX11 (by decide) mw_1_19 (fun _ _ _ _ h9 => h9) hf (by decide) rfl dX11_out_22  (fun v4 hf => ?_)
      refine z_iload_n 1 dX11_out_25 rfl rfl ?_
      obtain ⟨v5, ev5, hf⟩ := ob hf
      refine z_cVi (ci := 1) (T := TX1) (N := 8) (As := [.int l1]) (rest := []) (zm_X1_isOut ev5).2 (zm_X1_isOut ev5).1 (by decide) rfl (Or.inl rfl) mw_31_22 mw_31_23 mw_32_0 mw_1_18 mw_32_1 yk_X1_isOut (by decide) (by decide) rfl (Nat.le_of_ble_eq_true rfl) rfl dX11_out_26 ?_
      refine z_istore_n [(2, .int v5), (0, .ref l0), (1, .int l1)] dX11_out_29 rfl (by decide) rfl ?_
      refine z_aload_n 1 dX11_out_30 rfl rfl ?_
      obtain ⟨v6, ev6, hf⟩ := ob hf
      refine z_cVv (ci := 11) (T := TX11) (N := 14) (As := []) (rest := []) (zm_X11_change ev6).2 (zm_X11_change ev6).1 (by decide) rfl (Or.inr (tg_le hE (le_X11_out_34 hf))) mw_8_7 mw_8_8 mw_8_9 mw_1_2 mw_8_10 yk_X11_change (by decide) (by decide) rfl (Nat.le_of_ble_eq_true rfl) rfl dX11_out_31 ?_
      refine z_lv [(0, .ref l0), (1, .int l1), (2, .int v5)] [1, 2, 0] rfl ?_
      exact zb_X11_out_34 hE hf
    · refine z_aload_n 0 dX11_out_14 rfl rfl ?_
      refine z_bipush (-2) (-2) dX11_out_15 (by decide) ?_
      obtain ⟨v7, ev7, hf⟩ := ob hf
      refine z_cVi (ci := 11) (T := TX11) (N := 14) (As := [.int (-2 : Int32)]) (rest := []) (zm_X11_refuse ev7).2 (zm_X11_refuse ev7).1 (by decide) rfl (Or.inl rfl) mw_7_22 mw_7_23 mw_8_0 mw_1_2 mw_8_1 yk_X11_refuse (by decide) (by decide) rfl (Nat.le_of_ble_eq_true rfl) rfl dX11_out_17 ?_
      cases hf
      exact z_ireturn hE rfl dX11_out_20
  · cases hf
set_option maxRecDepth 20000 in
theorem zb_X11_whyUnpaired_32 {N : Nat} {sh : Sh} {d : Dt} {r : Int32} {E : EV} (hE : TG E (some (.int r)) (sh, d))  {t0 : Int32} (hf : f_X11_whyUnpaired_32 N sh t0 d = some r) : Z E yX11_whyUnpaired cX11_whyUnpaired 2 (some .int) 3 (sh, d) 32 [] [.int t0] := by
  unfold f_X11_whyUnpaired_32 at hf
  cases hf
  exact z_ireturn hE rfl dX11_whyUnpaired_32
set_option maxRecDepth 20000 in
theorem zm_X11_whyUnpaired {N : Nat} {sh : Sh} {d : Dt} {l0 : Nat} {l1 : Int32} {r : Int32} (hf : f_X11_whyUnpaired N sh l0 l1 d = some r) : isO sh l0 11 ∧ ∀ (l : Launch) (G : GG), Mt l G yX11_whyUnpaired cX11_whyUnpaired 2 (some .int) 3 [.ref l0, .int l1] (sh, d) (some (.int r)) (sh, d) := by
  have hf0 := hf
  unfold f_X11_whyUnpaired at hf
  split at hf
  · rename_i hO
    refine ⟨hO, fun l G => mt_of (Or.inl (by decide)) (Nat.le_of_ble_eq_true rfl) Le.rf (fun E hE => ?_)⟩
    show Z E yX11_whyUnpaired cX11_whyUnpaired 2 (some .int) 3 (sh, d) 0 [(0, .ref l0), (1, .int l1)] []
    refine z_aload_n 0 dX11_whyUnpaired_0 rfl rfl ?_
    refine z_gP (ci := 11) (k := 1) (C := RX11) (T := TX11) (N := 14) rfl inlX11 (by decide) mw_1_19 (fun _ _ _ _ h9 => h9) hf (by decide) rfl dX11_whyUnpaired_1  (fun v1 hf => ?_)
    refine z_iload_n 1 dX11_whyUnpaired_4 rfl rfl ?_
    obtain ⟨v2, ev2, hf⟩ := ob hf
    refine z_cVi (ci := 1) (T := TX1) (N := 8) (As := [.int l1]) (rest := []) (zm_X1_isOut ev2).2 (zm_X1_isOut ev2).1 (by decide) rfl (Or.inl rfl) mw_31_22 mw_31_23 mw_32_0 mw_1_18 mw_32_1 yk_X1_isOut (by decide) (by decide) rfl (Nat.le_of_ble_eq_true rfl) rfl dX11_whyUnpaired_5 ?_
    refine z_if_eq 14 hf dX11_whyUnpaired_8 (by decide) (fun hf => ?_) (fun hf => ?_)
    · refine z_aload_n 0 dX11_whyUnpaired_14 rfl rfl ?_
      refine z_gP (ci := 11) (k := 6) (C := RX11) (T := TX11) (N := 14) rfl inlX11 (by decide) mw_2_10 (fun _ _ _ _ h9 => h9) hf (by decide) rfl dX11_whyUnpaired_15  (fun v3 hf => ?_)
      refine z_iload_n 1 dX11_whyUnpaired_18 rfl rfl ?_
      refine z_aP hf dX11_whyUnpaired_19  (fun v4 hf => ?_)
      refine z_iOf3 hf mw_31_14 dX11_whyUnpaired_20  (fun v5 hf => ?_)
      refine z_if_eq 31 hf dX11_whyUnpaired_23 (by decide) (fun hf => ?_) (fun hf => ?_)
      · refine z_iconst 0 0 dX11_whyUnpaired_31 (by decide) ?_
        refine z_lv [] [] rfl ?_
        exact zb_X11_whyUnpaired_32 hE hf
      · refine z_bipush (-6) (-6) dX11_whyUnpaired_26 (by decide) ?_
        refine z_goto 32 dX11_whyUnpaired_28 (by decide) ?_
        refine z_lv [] [] rfl ?_
        exact zb_X11_whyUnpaired_32 hE hf
    · refine z_bipush (-4) (-4) dX11_whyUnpaired_11 (by decide) ?_
      cases hf
      exact z_ireturn hE rfl dX11_whyUnpaired_13
  · cases hf
set_option maxRecDepth 20000 in
theorem le_X3_init_35 {N : Nat} {r : AS}   {s : AS} (hf : f_X3_init_35 N  s = some r) : Le s r := by
  unfold f_X3_init_35 at hf
  cases hf
  exact Le.rf
set_option maxRecDepth 20000 in
theorem zb_X3_init_35 {N : Nat} {r : AS} {E : EV} (hE : TG E none r)   {s : AS} (hf : f_X3_init_35 N  s = some r) : Z E yX3_init cX3_init 4 none 2 s 35 [] [] := by
  unfold f_X3_init_35 at hf
  cases hf
  exact z_return hE rfl dX3_init_35
set_option maxRecDepth 20000 in
theorem le_X3_init_30 {N : Nat} {r : AS}  {l0 : Nat} {l3 : Nat} {s : AS} (hf : f_X3_init_30 N l0 l3 s = some r) : Le s r := by
  unfold f_X3_init_30 at hf
  obtain ⟨s7, es7, hf⟩ := ob hf
  refine Le.of (t := (s.1, s.2)) rfl ((le_pP es7).tr ?_)
  exact Le.via (le_X3_init_35 hf) rfl
set_option maxRecDepth 20000 in
theorem zb_X3_init_30 {N : Nat} {r : AS} {E : EV} (hE : TG E none r)  {l0 : Nat} {l3 : Nat} {s : AS} (hf : f_X3_init_30 N l0 l3 s = some r) : Z E yX3_init cX3_init 4 none 2 s 30 [(0, .ref l0), (3, .ref l3)] [] := by
  unfold f_X3_init_30 at hf
  refine z_aload_n 0 dX3_init_30 rfl rfl ?_
  refine z_aload_n 1 dX3_init_31 rfl rfl ?_
  refine z_pP (ci := 3) (k := 4) (C := RX3) (T := TX3) (N := 5) rfl inlX3 (by decide) mw_32_17 (fun _ _ _ _ h9 => h9) tyX3 tyX3_ok nmX3 rfl rfl rfl hf (Or.inl (by decide)) rfl rfl rfl dX3_init_32 (fun s7 es7 hf => ?_)
  refine z_lv [] [] rfl ?_
  exact zb_X3_init_35 hE hf
set_option maxRecDepth 20000 in
theorem le_X3_init_25 {N : Nat} {r : AS}  {l0 : Nat} {l2 : Nat} {l3 : Nat} {s : AS} (hf : f_X3_init_25 N l0 l2 l3 s = some r) : Le s r := by
  unfold f_X3_init_25 at hf
  obtain ⟨s6, es6, hf⟩ := ob hf
  refine Le.of (t := (s.1, s.2)) rfl ((le_pP es6).tr ?_)
  exact Le.via (le_X3_init_30 hf) rfl
set_option maxRecDepth 20000 in
theorem zb_X3_init_25 {N : Nat} {r : AS} {E : EV} (hE : TG E none r)  {l0 : Nat} {l2 : Nat} {l3 : Nat} {s : AS} (hf : f_X3_init_25 N l0 l2 l3 s = some r) : Z E yX3_init cX3_init 4 none 2 s 25 [(0, .ref l0), (2, .ref l2), (3, .ref l3)] [] := by
  unfold f_X3_init_25 at hf
  refine z_aload_n 0 dX3_init_25 rfl rfl ?_
  refine z_aload_n 1 dX3_init_26 rfl rfl ?_
  refine z_pP (ci := 3) (k := 3) (C := RX3) (T := TX3) (N := 5) rfl inlX3 (by decide) mw_32_16 (fun _ _ _ _ h9 => h9) tyX3 tyX3_ok nmX3 rfl rfl rfl hf (Or.inl (by decide)) rfl rfl rfl dX3_init_27 (fun s6 es6 hf => ?_)
  refine z_lv [(0, .ref l0), (3, .ref l3)] [0, 2] rfl ?_
  exact zb_X3_init_30 hE hf
set_option maxRecDepth 20000 in
theorem lm_X3_init {N : Nat} {s : AS} {l0 : Nat} {l1 : Nat} {l2 : Nat} {l3 : Nat} {r : AS} (hf : f_X3_init N l0 l1 l2 l3 s = some r) : Le s r := by
  unfold f_X3_init at hf
  split at hf
  · skip
    obtain ⟨v1, -, hf⟩ := ob hf
    obtain ⟨v2, -, hf⟩ := ob hf
    obtain ⟨v3, -, hf⟩ := ob hf
    obtain ⟨v4, -, hf⟩ := ob hf
    obtain ⟨v5, ev5, hf⟩ := ob hf
    refine Le.of (t := (s.1, s.2)) rfl ((lm_X6_init ev5).tr ?_)
    exact Le.via (le_X3_init_25 hf) rfl
  · cases hf
set_option maxRecDepth 20000 in
theorem zm_X3_init {N : Nat} {s : AS} {l0 : Nat} {l1 : Nat} {l2 : Nat} {l3 : Nat} {r : AS} (hf : f_X3_init N l0 l1 l2 l3 s = some r) : isO s.1 l0 3 ∧ ∀ (l : Launch) (G : GG), Mt l G yX3_init cX3_init 4 none 2 [.ref l0, .ref l1, .ref l2, .ref l3] s none r := by
  have hf0 := hf
  unfold f_X3_init at hf
  split at hf
  · rename_i hO
    refine ⟨hO, fun l G => mt_of (Or.inl (by decide)) (Nat.le_of_ble_eq_true rfl) (lm_X3_init hf0) (fun E hE => ?_)⟩
    show Z E yX3_init cX3_init 4 none 2 s 0 [(0, .ref l0), (1, .ref l1), (2, .ref l2), (3, .ref l3)] []
    refine z_aload_n 0 dX3_init_0 rfl rfl ?_
    refine z_aload_n 1 dX3_init_1 rfl rfl ?_
    refine z_aload_n 2 dX3_init_2 rfl rfl ?_
    refine z_g6_1 hf mw_32_13 dX3_init_3  (fun v1 hf => ?_)
    refine z_aload_n 3 dX3_init_6 rfl rfl ?_
    refine z_g6_1 hf mw_32_13 dX3_init_7  (fun v2 hf => ?_)
    refine z_min mw_32_14 mw_9_20 mw_8_22 mw_9_21 (by decide) (Nat.le_of_ble_eq_true rfl) dX3_init_10 ?_
    refine z_aload_n 2 dX3_init_13 rfl rfl ?_
    refine z_g6_2 hf mw_32_15 dX3_init_14  (fun v3 hf => ?_)
    refine z_aload_n 3 dX3_init_17 rfl rfl ?_
    refine z_g6_2 hf mw_32_15 dX3_init_18  (fun v4 hf => ?_)
    refine z_iadd dX3_init_21 ?_
    obtain ⟨v5, ev5, hf⟩ := ob hf
    refine z_cI (As := [.ref l1, .int (o_min v1 v2), .int (v3 + v4)]) (rest := []) (zm_X6_init ev5).2 (Or.inr (tg_le hE (le_X3_init_25 hf))) mw_32_18 mw_6_9 mw_2_22 mw_6_10 rfl yk_X6_init (by decide) (by decide) rfl (Nat.le_of_ble_eq_true rfl) rfl dX3_init_22 ?_
    refine z_lv [(0, .ref l0), (2, .ref l2), (3, .ref l3)] [0, 2, 3] rfl ?_
    exact zb_X3_init_25 hE hf
  · cases hf
