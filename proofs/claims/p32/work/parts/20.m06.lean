set_option maxRecDepth 20000 in
theorem zb_X12_text_201 {N : Nat} {sh : Sh} {r : Int32 × Dt} {E : EV} (hE : TG E (some (.int r.1)) (sh, r.2))  {l0 : Nat} {d : Dt} (hf : f_X12_text_201 N sh l0 d = some r) : Z E yX12_text cX12_text 6 (some .int) 3 (sh, d) 201 [(0, .ref l0)] [] := by
  unfold f_X12_text_201 at hf
  refine z_aload_n 0 dX12_text_201 rfl rfl ?_
  refine z_aload_n 0 dX12_text_202 rfl rfl ?_
  refine z_gI (ci := 12) (k := 8) (C := RX12) (T := TX12) (N := 32) rfl inlX12 (by decide) mw_57_3 (fun _ _ _ _ h9 => h9) hf (by decide) rfl dX12_text_203  (fun v7 hf => ?_)
  obtain ⟨v8, ev8, hf⟩ := ob hf
  refine z_cVi (ci := 12) (T := TX12) (N := 32) (As := [.int v7]) (rest := []) (zm_X12_says ev8).2 (zm_X12_says ev8).1 (by decide) rfl (Or.inl rfl) mw_12_4 mw_12_5 mw_12_6 mw_1_5 mw_12_7 yk_X12_says (by decide) (by decide) rfl (Nat.le_of_ble_eq_true rfl) rfl dX12_text_206 ?_
  cases hf
  exact z_ireturn hE rfl dX12_text_209
set_option maxRecDepth 20000 in
theorem zb_X12_text_195 {N : Nat} {sh : Sh} {k9 : Nat → Int32 → Int32 → Dt → Option (Int32 × Dt)} {r : Int32 × Dt} {E : EV} (hE : TG E (some (.int r.1)) (sh, r.2)) (hk9 : ∀ (l0 : Nat) (l1 : Int32) (l2 : Int32) (d : Dt), k9 l0 l1 l2 d = some r → Z E yX12_text cX12_text 6 (some .int) 3 (sh, d) 9 [(0, .ref l0), (1, .int l1), (2, .int l2)] []) {l0 : Nat} {l1 : Int32} {l2 : Int32} {d : Dt} (hf : f_X12_text_195 N sh k9 l0 l1 l2 d = some r) : Z E yX12_text cX12_text 6 (some .int) 3 (sh, d) 195 [(0, .ref l0), (1, .int l1), (2, .int l2)] [] := by
  unfold f_X12_text_195 at hf
  refine z_iinc [(2, .int (l2 + 1)), (0, .ref l0), (1, .int l1)] 2 (l2 + 1) dX12_text_195 rfl rfl (by decide) rfl ?_
  refine z_goto 9 dX12_text_198 (by decide) ?_
  refine z_lv [(0, .ref l0), (1, .int l1), (2, .int (l2 + 1))] [1, 2, 0] rfl ?_
  exact hk9 _ _ _ _ hf
set_option maxRecDepth 20000 in
theorem zb_X12_text_169 {N : Nat} {sh : Sh} {k9 : Nat → Int32 → Int32 → Dt → Option (Int32 × Dt)} {r : Int32 × Dt} {E : EV} (hE : TG E (some (.int r.1)) (sh, r.2)) (hk9 : ∀ (l0 : Nat) (l1 : Int32) (l2 : Int32) (d : Dt), k9 l0 l1 l2 d = some r → Z E yX12_text cX12_text 6 (some .int) 3 (sh, d) 9 [(0, .ref l0), (1, .int l1), (2, .int l2)] []) {l0 : Nat} {l1 : Int32} {l2 : Int32} {l3 : Int32} {l4 : Int32} {d : Dt} (hf : f_X12_text_169 N sh k9 l0 l1 l2 l3 l4 d = some r) : Z E yX12_text cX12_text 6 (some .int) 3 (sh, d) 169 [(0, .ref l0), (1, .int l1), (2, .int l2), (3, .int l3), (4, .int l4)] [] := by
  unfold f_X12_text_169 at hf
  refine z_aload_n 0 dX12_text_169 rfl rfl ?_
  refine z_bipush 48 48 dX12_text_170 (by decide) ?_
  refine z_iload_n 3 dX12_text_172 rfl rfl ?_
  refine z_bipush 10 10 dX12_text_173 (by decide) ?_
  refine z_irem hf dX12_text_175  (fun v18 hf => ?_)
  refine z_iadd dX12_text_176 ?_
  obtain ⟨v19, ev19, hf⟩ := ob hf
  refine z_cVv (ci := 12) (T := TX12) (N := 32) (As := [.int ((48 : Int32) + v18)]) (rest := []) (zm_X12_writes_ ev19).2 (zm_X12_writes_ ev19).1 (by decide) rfl (Or.inl rfl) mw_57_8 mw_57_9 mw_57_10 mw_1_5 mw_57_11 yk_X12_writes_ (by decide) (by decide) rfl (Nat.le_of_ble_eq_true rfl) rfl dX12_text_177 ?_
  refine z_iload 4 dX12_text_180 rfl ?_
  refine z_iconst (-1) (-1) dX12_text_182 (by decide) ?_
  refine z_icmp_eq 195 hf dX12_text_183 (by decide) (fun hf => ?_) (fun hf => ?_)
  · refine z_lv [(0, .ref l0), (1, .int l1), (2, .int l2)] [0, 1, 2] rfl ?_
    exact zb_X12_text_195 hE hk9 hf
  · refine z_aload_n 0 dX12_text_186 rfl rfl ?_
    refine z_bipush 65 65 dX12_text_187 (by decide) ?_
    refine z_iload 4 dX12_text_189 rfl ?_
    refine z_iadd dX12_text_191 ?_
    obtain ⟨v20, ev20, hf⟩ := ob hf
    refine z_cVv (ci := 12) (T := TX12) (N := 32) (As := [.int ((65 : Int32) + l4)]) (rest := []) (zm_X12_writes_ ev20).2 (zm_X12_writes_ ev20).1 (by decide) rfl (Or.inl rfl) mw_57_8 mw_57_9 mw_57_10 mw_1_5 mw_57_11 yk_X12_writes_ (by decide) (by decide) rfl (Nat.le_of_ble_eq_true rfl) rfl dX12_text_192 ?_
    refine z_lv [(0, .ref l0), (1, .int l1), (2, .int l2)] [0, 1, 2] rfl ?_
    exact zb_X12_text_195 hE hk9 hf
set_option maxRecDepth 20000 in
theorem zb_X12_text_149 {N : Nat} {sh : Sh} {k9 : Nat → Int32 → Int32 → Dt → Option (Int32 × Dt)} {r : Int32 × Dt} {E : EV} (hE : TG E (some (.int r.1)) (sh, r.2)) (hk9 : ∀ (l0 : Nat) (l1 : Int32) (l2 : Int32) (d : Dt), k9 l0 l1 l2 d = some r → Z E yX12_text cX12_text 6 (some .int) 3 (sh, d) 9 [(0, .ref l0), (1, .int l1), (2, .int l2)] []) {l0 : Nat} {l1 : Int32} {l2 : Int32} {l3 : Int32} {l4 : Int32} {l5 : Int32} {d : Dt} (hf : f_X12_text_149 N sh k9 l0 l1 l2 l3 l4 l5 d = some r) : Z E yX12_text cX12_text 6 (some .int) 3 (sh, d) 149 [(0, .ref l0), (1, .int l1), (2, .int l2), (3, .int l3), (4, .int l4), (5, .int l5)] [] := by
  unfold f_X12_text_149 at hf
  refine z_iload 5 dX12_text_149 rfl ?_
  refine z_iconst 1 1 dX12_text_151 (by decide) ?_
  refine z_icmp_le 169 hf dX12_text_152 (by decide) (fun hf => ?_) (fun hf => ?_)
  · refine z_lv [(0, .ref l0), (1, .int l1), (2, .int l2), (3, .int l3), (4, .int l4)] [0, 1, 2, 3, 4] rfl ?_
    exact zb_X12_text_169 hE hk9 hf
  · refine z_aload_n 0 dX12_text_155 rfl rfl ?_
    refine z_bipush 48 48 dX12_text_156 (by decide) ?_
    refine z_iload_n 3 dX12_text_158 rfl rfl ?_
    refine z_bipush 10 10 dX12_text_159 (by decide) ?_
    refine z_idiv hf dX12_text_161  (fun v15 hf => ?_)
    refine z_bipush 10 10 dX12_text_162 (by decide) ?_
    refine z_irem hf dX12_text_164  (fun v16 hf => ?_)
    refine z_iadd dX12_text_165 ?_
    obtain ⟨v17, ev17, hf⟩ := ob hf
    refine z_cVv (ci := 12) (T := TX12) (N := 32) (As := [.int ((48 : Int32) + v16)]) (rest := []) (zm_X12_writes_ ev17).2 (zm_X12_writes_ ev17).1 (by decide) rfl (Or.inl rfl) mw_57_8 mw_57_9 mw_57_10 mw_1_5 mw_57_11 yk_X12_writes_ (by decide) (by decide) rfl (Nat.le_of_ble_eq_true rfl) rfl dX12_text_166 ?_
    refine z_lv [(0, .ref l0), (1, .int l1), (2, .int l2), (3, .int l3), (4, .int l4)] [0, 1, 2, 3, 4] rfl ?_
    exact zb_X12_text_169 hE hk9 hf
set_option maxRecDepth 20000 in
theorem zb_X12_text_129 {N : Nat} {sh : Sh} {k9 : Nat → Int32 → Int32 → Dt → Option (Int32 × Dt)} {r : Int32 × Dt} {E : EV} (hE : TG E (some (.int r.1)) (sh, r.2)) (hk9 : ∀ (l0 : Nat) (l1 : Int32) (l2 : Int32) (d : Dt), k9 l0 l1 l2 d = some r → Z E yX12_text cX12_text 6 (some .int) 3 (sh, d) 9 [(0, .ref l0), (1, .int l1), (2, .int l2)] []) {l0 : Nat} {l1 : Int32} {l2 : Int32} {l3 : Int32} {l4 : Int32} {l5 : Int32} {t0 : Nat} {t1 : Int32} {d : Dt} (hf : f_X12_text_129 N sh k9 l0 l1 l2 l3 l4 l5 t0 t1 d = some r) : Z E yX12_text cX12_text 6 (some .int) 3 (sh, d) 129 [(0, .ref l0), (1, .int l1), (2, .int l2), (3, .int l3), (4, .int l4), (5, .int l5)] [.int t1, .ref t0] := by
  unfold f_X12_text_129 at hf
  obtain ⟨v12, ev12, hf⟩ := ob hf
  refine z_cVv (ci := 12) (T := TX12) (N := 32) (As := [.int t1]) (rest := []) (zm_X12_writes_ ev12).2 (zm_X12_writes_ ev12).1 (by decide) rfl (Or.inl rfl) mw_57_8 mw_57_9 mw_57_10 mw_1_5 mw_57_11 yk_X12_writes_ (by decide) (by decide) rfl (Nat.le_of_ble_eq_true rfl) rfl dX12_text_129 ?_
  refine z_iload 5 dX12_text_132 rfl ?_
  refine z_iconst 2 2 dX12_text_134 (by decide) ?_
  refine z_icmp_le 149 hf dX12_text_135 (by decide) (fun hf => ?_) (fun hf => ?_)
  · exact zb_X12_text_149 hE hk9 hf
  · refine z_aload_n 0 dX12_text_138 rfl rfl ?_
    refine z_bipush 48 48 dX12_text_139 (by decide) ?_
    refine z_iload_n 3 dX12_text_141 rfl rfl ?_
    refine z_bipush 100 100 dX12_text_142 (by decide) ?_
    refine z_idiv hf dX12_text_144  (fun v13 hf => ?_)
    refine z_iadd dX12_text_145 ?_
    obtain ⟨v14, ev14, hf⟩ := ob hf
    refine z_cVv (ci := 12) (T := TX12) (N := 32) (As := [.int ((48 : Int32) + v13)]) (rest := []) (zm_X12_writes_ ev14).2 (zm_X12_writes_ ev14).1 (by decide) rfl (Or.inl rfl) mw_57_8 mw_57_9 mw_57_10 mw_1_5 mw_57_11 yk_X12_writes_ (by decide) (by decide) rfl (Nat.le_of_ble_eq_true rfl) rfl dX12_text_146 ?_
    exact zb_X12_text_149 hE hk9 hf
set_option maxRecDepth 20000 in
theorem zb_X12_text_98 {N : Nat} {sh : Sh} {k9 : Nat → Int32 → Int32 → Dt → Option (Int32 × Dt)} {r : Int32 × Dt} {E : EV} (hE : TG E (some (.int r.1)) (sh, r.2)) (hk9 : ∀ (l0 : Nat) (l1 : Int32) (l2 : Int32) (d : Dt), k9 l0 l1 l2 d = some r → Z E yX12_text cX12_text 6 (some .int) 3 (sh, d) 9 [(0, .ref l0), (1, .int l1), (2, .int l2)] []) {l0 : Nat} {l2 : Int32} {l3 : Int32} {l4 : Int32} {l5 : Int32} {t0 : Int32} {d : Dt} (hf : f_X12_text_98 N sh k9 l0 l2 l3 l4 l5 t0 d = some r) : Z E yX12_text cX12_text 6 (some .int) 3 (sh, d) 98 [(0, .ref l0), (2, .int l2), (3, .int l3), (4, .int l4), (5, .int l5)] [.int t0] := by
  unfold f_X12_text_98 at hf
  refine z_istore_n [(1, .int t0), (0, .ref l0), (2, .int l2), (3, .int l3), (4, .int l4), (5, .int l5)] dX12_text_98 rfl (by decide) rfl ?_
  refine z_iload_n 0 dX12_text_99 rfl rfl ?_
  refine z_if_eq 195 hf dX12_text_100 (by decide) (fun hf => ?_) (fun hf => ?_)
  · refine z_lv [(0, .ref l0), (1, .int t0), (2, .int l2)] [1, 0, 2] rfl ?_
    exact zb_X12_text_195 hE hk9 hf
  · refine z_aload_n 1 dX12_text_103 rfl rfl ?_
    refine z_aload_n 1 dX12_text_104 rfl rfl ?_
    refine z_gP (ci := 12) (k := 0) (C := RX12) (T := TX12) (N := 32) rfl inlX12 (by decide) mw_6_19 (fun _ _ _ _ h9 => h9) hf (by decide) rfl dX12_text_105  (fun v10 hf => ?_)
    refine z_sipush 9642 9642 dX12_text_108 (by decide) ?_
    refine z_iconst 3 3 dX12_text_111 (by decide) ?_
    refine z_iload_n 2 dX12_text_112 rfl rfl ?_
    refine z_imul dX12_text_113 ?_
    refine z_iadd dX12_text_114 ?_
    refine z_iconst 2 2 dX12_text_115 (by decide) ?_
    refine z_iadd dX12_text_116 ?_
    refine z_aI hf dX12_text_117  (fun v11 hf => ?_)
    refine z_iconst 1 1 dX12_text_118 (by decide) ?_
    refine z_icmp_ne 127 hf dX12_text_119 (by decide) (fun hf => ?_) (fun hf => ?_)
    · refine z_bipush 45 45 dX12_text_127 (by decide) ?_
      refine z_lv [(0, .ref l0), (1, .int t0), (2, .int l2), (3, .int l3), (4, .int l4), (5, .int l5)] [1, 0, 2, 3, 4, 5] rfl ?_
      exact zb_X12_text_129 hE hk9 hf
    · refine z_bipush 43 43 dX12_text_122 (by decide) ?_
      refine z_goto 129 dX12_text_124 (by decide) ?_
      refine z_lv [(0, .ref l0), (1, .int t0), (2, .int l2), (3, .int l3), (4, .int l4), (5, .int l5)] [1, 0, 2, 3, 4, 5] rfl ?_
      exact zb_X12_text_129 hE hk9 hf
set_option maxRecDepth 20000 in
theorem zb_X12_text_86 {N : Nat} {sh : Sh} {k9 : Nat → Int32 → Int32 → Dt → Option (Int32 × Dt)} {r : Int32 × Dt} {E : EV} (hE : TG E (some (.int r.1)) (sh, r.2)) (hk9 : ∀ (l0 : Nat) (l1 : Int32) (l2 : Int32) (d : Dt), k9 l0 l1 l2 d = some r → Z E yX12_text cX12_text 6 (some .int) 3 (sh, d) 9 [(0, .ref l0), (1, .int l1), (2, .int l2)] []) {l0 : Nat} {l2 : Int32} {l3 : Int32} {l4 : Int32} {l5 : Int32} {t0 : Int32} {t1 : Int32} {d : Dt} (hf : f_X12_text_86 N sh k9 l0 l2 l3 l4 l5 t0 t1 d = some r) : Z E yX12_text cX12_text 6 (some .int) 3 (sh, d) 86 [(0, .ref l0), (2, .int l2), (3, .int l3), (4, .int l4), (5, .int l5)] [.int t1, .int t0] := by
  unfold f_X12_text_86 at hf
  refine z_iadd dX12_text_86 ?_
  refine z_sipush 8000 8000 dX12_text_87 (by decide) ?_
  refine z_icmp_gt 97 hf dX12_text_90 (by decide) (fun hf => ?_) (fun hf => ?_)
  · refine z_iconst 0 0 dX12_text_97 (by decide) ?_
    exact zb_X12_text_98 hE hk9 hf
  · refine z_iconst 1 1 dX12_text_93 (by decide) ?_
    refine z_goto 98 dX12_text_94 (by decide) ?_
    exact zb_X12_text_98 hE hk9 hf
set_option maxRecDepth 20000 in
theorem zb_X12_text_64 {N : Nat} {sh : Sh} {k9 : Nat → Int32 → Int32 → Dt → Option (Int32 × Dt)} {r : Int32 × Dt} {E : EV} (hE : TG E (some (.int r.1)) (sh, r.2)) (hk9 : ∀ (l0 : Nat) (l1 : Int32) (l2 : Int32) (d : Dt), k9 l0 l1 l2 d = some r → Z E yX12_text cX12_text 6 (some .int) 3 (sh, d) 9 [(0, .ref l0), (1, .int l1), (2, .int l2)] []) {l0 : Nat} {l2 : Int32} {l3 : Int32} {l4 : Int32} {t0 : Int32} {d : Dt} (hf : f_X12_text_64 N sh k9 l0 l2 l3 l4 t0 d = some r) : Z E yX12_text cX12_text 6 (some .int) 3 (sh, d) 64 [(0, .ref l0), (2, .int l2), (3, .int l3), (4, .int l4)] [.int t0] := by
  unfold f_X12_text_64 at hf
  refine z_istore [(5, .int t0), (0, .ref l0), (2, .int l2), (3, .int l3), (4, .int l4)] dX12_text_64 (by decide) rfl ?_
  refine z_aload_n 1 dX12_text_66 rfl rfl ?_
  refine z_gI (ci := 12) (k := 8) (C := RX12) (T := TX12) (N := 32) rfl inlX12 (by decide) mw_57_3 (fun _ _ _ _ h9 => h9) hf (by decide) rfl dX12_text_67  (fun v9 hf => ?_)
  refine z_iconst 1 1 dX12_text_70 (by decide) ?_
  refine z_iadd dX12_text_71 ?_
  refine z_iload 0 dX12_text_72 rfl ?_
  refine z_iadd dX12_text_74 ?_
  refine z_iload 4 dX12_text_75 rfl ?_
  refine z_iconst (-1) (-1) dX12_text_77 (by decide) ?_
  refine z_icmp_eq 85 hf dX12_text_78 (by decide) (fun hf => ?_) (fun hf => ?_)
  · refine z_iconst 0 0 dX12_text_85 (by decide) ?_
    refine z_lv [(0, .ref l0), (2, .int l2), (3, .int l3), (4, .int l4), (5, .int t0)] [1, 2, 3, 4, 0] rfl ?_
    exact zb_X12_text_86 hE hk9 hf
  · refine z_iconst 1 1 dX12_text_81 (by decide) ?_
    refine z_goto 86 dX12_text_82 (by decide) ?_
    refine z_lv [(0, .ref l0), (2, .int l2), (3, .int l3), (4, .int l4), (5, .int t0)] [1, 2, 3, 4, 0] rfl ?_
    exact zb_X12_text_86 hE hk9 hf
set_option maxRecDepth 20000 in
theorem zg_X12_text_9 {N : Nat} {sh : Sh} {r : Int32 × Dt} {k9 : Nat → Int32 → Int32 → Dt → Option (Int32 × Dt)} {E : EV} (hE : TG E (some (.int r.1)) (sh, r.2))  (hk9 : ∀ (l0 : Nat) (l1 : Int32) (l2 : Int32) (d : Dt), k9 l0 l1 l2 d = some r → Z E yX12_text cX12_text 6 (some .int) 3 (sh, d) 9 [(0, .ref l0), (1, .int l1), (2, .int l2)] []) {l0 : Nat} {l1 : Int32} {l2 : Int32} {d : Dt} (hf : g_X12_text_9 N sh k9 l0 l1 l2 d = some r) : Z E yX12_text cX12_text 6 (some .int) 3 (sh, d) 9 [(0, .ref l0), (1, .int l1), (2, .int l2)] [] := by
  unfold g_X12_text_9 at hf
  refine z_iload_n 2 dX12_text_9 rfl rfl ?_
  refine z_aload_n 0 dX12_text_10 rfl rfl ?_
  refine z_gP (ci := 12) (k := 0) (C := RX12) (T := TX12) (N := 32) rfl inlX12 (by decide) mw_6_19 (fun _ _ _ _ h9 => h9) hf (by decide) rfl dX12_text_11  (fun v2 hf => ?_)
  refine z_iconst 4 4 dX12_text_14 (by decide) ?_
  refine z_aI hf dX12_text_15  (fun v3 hf => ?_)
  refine z_icmp_ge 201 hf dX12_text_16 (by decide) (fun hf => ?_) (fun hf => ?_)
  · refine z_lv [(0, .ref l0)] [0] rfl ?_
    exact zb_X12_text_201 hE hf
  · refine z_iload_n 1 dX12_text_19 rfl rfl ?_
    refine z_if_eq 201 hf dX12_text_20 (by decide) (fun hf => ?_) (fun hf => ?_)
    · refine z_lv [(0, .ref l0)] [0] rfl ?_
      exact zb_X12_text_201 hE hf
    · refine z_aload_n 0 dX12_text_23 rfl rfl ?_
      refine z_gP (ci := 12) (k := 0) (C := RX12) (T := TX12) (N := 32) rfl inlX12 (by decide) mw_6_19 (fun _ _ _ _ h9 => h9) hf (by decide) rfl dX12_text_24  (fun v4 hf => ?_)
      refine z_sipush 9642 9642 dX12_text_27 (by decide) ?_
      refine z_iconst 3 3 dX12_text_30 (by decide) ?_
      refine z_iload_n 2 dX12_text_31 rfl rfl ?_
      refine z_imul dX12_text_32 ?_
      refine z_iadd dX12_text_33 ?_
      refine z_aI hf dX12_text_34  (fun v5 hf => ?_)
      refine z_istore_n [(3, .int v5), (0, .ref l0), (1, .int l1), (2, .int l2)] dX12_text_35 rfl (by decide) rfl ?_
      refine z_aload_n 1 dX12_text_36 rfl rfl ?_
      refine z_iload_n 3 dX12_text_37 rfl rfl ?_
      obtain ⟨v6, ev6, hf⟩ := ob hf
      refine z_cVi (ci := 12) (T := TX12) (N := 32) (As := [.int l2]) (rest := []) (zm_X12_endOf ev6).2 (zm_X12_endOf ev6).1 (by decide) rfl (Or.inl rfl) mw_57_4 mw_57_5 mw_57_6 mw_1_5 mw_57_7 yk_X12_endOf (by decide) (by decide) rfl (Nat.le_of_ble_eq_true rfl) rfl dX12_text_38 ?_
      refine z_istore [(4, .int v6), (3, .int v5), (0, .ref l0), (1, .int l1), (2, .int l2)] dX12_text_41 (by decide) rfl ?_
      refine z_iload_n 1 dX12_text_43 rfl rfl ?_
      refine z_bipush 99 99 dX12_text_44 (by decide) ?_
      refine z_icmp_le 53 hf dX12_text_46 (by decide) (fun hf => ?_) (fun hf => ?_)
      · refine z_iload_n 1 dX12_text_53 rfl rfl ?_
        refine z_bipush 9 9 dX12_text_54 (by decide) ?_
        refine z_icmp_le 63 hf dX12_text_56 (by decide) (fun hf => ?_) (fun hf => ?_)
        · refine z_iconst 1 1 dX12_text_63 (by decide) ?_
          refine z_lv [(0, .ref l0), (2, .int l2), (3, .int v5), (4, .int v6)] [2, 4, 1, 0] rfl ?_
          exact zb_X12_text_64 hE hk9 hf
        · refine z_iconst 2 2 dX12_text_59 (by decide) ?_
          refine z_goto 64 dX12_text_60 (by decide) ?_
          refine z_lv [(0, .ref l0), (2, .int l2), (3, .int v5), (4, .int v6)] [2, 4, 1, 0] rfl ?_
          exact zb_X12_text_64 hE hk9 hf
      · refine z_iconst 3 3 dX12_text_49 (by decide) ?_
        refine z_goto 64 dX12_text_50 (by decide) ?_
        refine z_lv [(0, .ref l0), (2, .int l2), (3, .int v5), (4, .int v6)] [2, 4, 1, 0] rfl ?_
        exact zb_X12_text_64 hE hk9 hf
set_option maxRecDepth 20000 in
theorem zb_X12_text_9 {N : Nat} {sh : Sh} {r : Int32 × Dt} {E : EV} (hE : TG E (some (.int r.1)) (sh, r.2))  : ∀ (n : Nat) (l0 : Nat) (l1 : Int32) (l2 : Int32) (d : Dt), f_X12_text_9 N sh n l0 l1 l2 d = some r → Z E yX12_text cX12_text 6 (some .int) 3 (sh, d) 9 [(0, .ref l0), (1, .int l1), (2, .int l2)] [] := by
  intro n
  induction n with
  | zero => intro l0 l1 l2 d hf; cases hf
  | succ n ih => intro l0 l1 l2 d hf; exact zg_X12_text_9 hE ih hf
set_option maxRecDepth 20000 in
theorem zm_X12_text {N : Nat} {sh : Sh} {d : Dt} {l0 : Nat} {r : Int32 × Dt} (hf : f_X12_text N sh l0 d = some r) : isO sh l0 12 ∧ ∀ (l : Launch) (G : GG), Mt l G yX12_text cX12_text 6 (some .int) 3 [.ref l0] (sh, d) (some (.int r.1)) (sh, r.2) := by
  have hf0 := hf
  unfold f_X12_text at hf
  refine ite_d hf (fun hO hf => ?_) (fun _ hf => ?_)
  · refine ⟨hO, fun l G => mt_of (Or.inl (by decide)) (Nat.le_of_ble_eq_true rfl) Le.rf (fun E hE => ?_)⟩
    show Z E yX12_text cX12_text 6 (some .int) 3 (sh, d) 0 [(0, .ref l0)] []
    refine z_aload_n 0 dX12_text_0 rfl rfl ?_
    refine z_iconst 0 0 dX12_text_1 (by decide) ?_
    refine z_pI (ci := 12) (k := 8) (C := RX12) (T := TX12) (N := 32) rfl inlX12 (by decide) mw_57_3 (fun _ _ _ _ h9 => h9) tyX12 tyX12_ok nmX12 rfl hf (Or.inl (by decide)) rfl rfl rfl dX12_text_2  (fun d1 hf => ?_)
    refine z_iconst 1 1 dX12_text_5 (by decide) ?_
    refine z_istore_n [(1, .int (1 : Int32)), (0, .ref l0)] dX12_text_6 rfl (by decide) rfl ?_
    refine z_iconst 0 0 dX12_text_7 (by decide) ?_
    refine z_istore_n [(2, .int (0 : Int32)), (1, .int (1 : Int32)), (0, .ref l0)] dX12_text_8 rfl (by decide) rfl ?_
    refine z_lv [(0, .ref l0), (1, .int (1 : Int32)), (2, .int (0 : Int32))] [2, 1, 0] rfl ?_
    exact zb_X12_text_9 hE N _ _ _ _ hf
  · cases hf
set_option maxRecDepth 20000 in
theorem zb_X12_told_43 {N : Nat} {sh : Sh} {r : Int32 × Dt} {E : EV} (hE : TG E (some (.int r.1)) (sh, r.2))  {t0 : Int32} {d : Dt} (hf : f_X12_told_43 N sh t0 d = some r) : Z E yX12_told cX12_told 3 (some .int) 3 (sh, d) 43 [] [.int t0] := by
  unfold f_X12_told_43 at hf
  cases hf
  exact z_ireturn hE rfl dX12_told_43
set_option maxRecDepth 20000 in
theorem zb_X12_told_18 {N : Nat} {sh : Sh} {r : Int32 × Dt} {E : EV} (hE : TG E (some (.int r.1)) (sh, r.2))  {l0 : Nat} {d : Dt} (hf : f_X12_told_18 N sh l0 d = some r) : Z E yX12_told cX12_told 3 (some .int) 3 (sh, d) 18 [(0, .ref l0)] [] := by
  unfold f_X12_told_18 at hf
  refine z_aload_n 0 dX12_told_18 rfl rfl ?_
  refine z_bipush (-2) (-2) dX12_told_19 (by decide) ?_
  obtain ⟨v7, ev7, hf⟩ := ob hf
  refine z_cVi (ci := 12) (T := TX12) (N := 32) (As := [.int (-2 : Int32)]) (rest := []) (zm_X12_refuses ev7).2 (zm_X12_refuses ev7).1 (by decide) rfl (Or.inl rfl) mw_11_14 mw_11_15 mw_11_16 mw_1_5 mw_11_17 yk_X12_refuses (by decide) (by decide) rfl (Nat.le_of_ble_eq_true rfl) rfl dX12_told_21 ?_
  refine z_goto 43 dX12_told_24 (by decide) ?_
  refine z_lv [] [] rfl ?_
  exact zb_X12_told_43 hE hf
set_option maxRecDepth 20000 in
theorem zm_X12_told {N : Nat} {sh : Sh} {d : Dt} {l0 : Nat} {l1 : Int32} {l2 : Int32} {r : Int32 × Dt} (hf : f_X12_told N sh l0 l1 l2 d = some r) : isO sh l0 12 ∧ ∀ (l : Launch) (G : GG), Mt l G yX12_told cX12_told 3 (some .int) 3 [.ref l0, .int l1, .int l2] (sh, d) (some (.int r.1)) (sh, r.2) := by
  have hf0 := hf
  unfold f_X12_told at hf
  refine ite_d hf (fun hO hf => ?_) (fun _ hf => ?_)
  · refine ⟨hO, fun l G => mt_of (Or.inl (by decide)) (Nat.le_of_ble_eq_true rfl) Le.rf (fun E hE => ?_)⟩
    show Z E yX12_told cX12_told 3 (some .int) 3 (sh, d) 0 [(0, .ref l0), (1, .int l1), (2, .int l2)] []
    refine z_aload_n 0 dX12_told_0 rfl rfl ?_
    refine z_iload_n 1 dX12_told_1 rfl rfl ?_
    obtain ⟨v1, ev1, hf⟩ := ob hf
    refine z_cVi (ci := 12) (T := TX12) (N := 32) (As := [.int l1]) (rest := []) (zm_X12_isStreet ev1).2 (zm_X12_isStreet ev1).1 (by decide) rfl (Or.inl rfl) mw_14_11 mw_14_12 mw_14_13 mw_1_5 mw_14_14 yk_X12_isStreet (by decide) (by decide) rfl (Nat.le_of_ble_eq_true rfl) rfl dX12_told_2 ?_
    refine z_if_eq 18 hf dX12_told_5 (by decide) (fun hf => ?_) (fun hf => ?_)
    · refine z_lv [(0, .ref l0)] [0] rfl ?_
      exact zb_X12_told_18 hE hf
    · refine z_iload_n 2 dX12_told_8 rfl rfl ?_
      refine z_iconst 0 0 dX12_told_9 (by decide) ?_
      refine z_bipush 8 8 dX12_told_10 (by decide) ?_
      obtain ⟨v2, ev2, hf⟩ := ob hf
      refine z_cTi (As := [.int l2, .int (0 : Int32), .int (8 : Int32)]) (rest := []) (zm_X12_in ev2) (Or.inl rfl) mw_11_11 mw_11_12 mw_1_5 mw_11_13 yk_X12_in (by decide) (by decide) rfl (Nat.le_of_ble_eq_true rfl) rfl dX12_told_12 ?_
      refine z_if_ne 27 hf dX12_told_15 (by decide) (fun hf => ?_) (fun hf => ?_)
      · refine z_aload_n 0 dX12_told_27 rfl rfl ?_
        refine z_aload_n 0 dX12_told_28 rfl rfl ?_
        refine z_gP (ci := 12) (k := 0) (C := RX12) (T := TX12) (N := 32) rfl inlX12 (by decide) mw_6_19 (fun _ _ _ _ h9 => h9) hf (by decide) rfl dX12_told_29  (fun v3 hf => ?_)
        refine z_aload_n 0 dX12_told_32 rfl rfl ?_
        refine z_iload_n 1 dX12_told_33 rfl rfl ?_
        obtain ⟨v4, ev4, hf⟩ := ob hf
        refine z_cVi (ci := 12) (T := TX12) (N := 32) (As := [.int l1]) (rest := [.ref v3, .ref l0]) (zm_X12_st ev4).2 (zm_X12_st ev4).1 (by decide) rfl (Or.inl rfl) mw_13_10 mw_13_11 mw_13_12 mw_1_5 mw_13_13 yk_X12_st (by decide) (by decide) rfl (Nat.le_of_ble_eq_true rfl) rfl dX12_told_34 ?_
        refine z_iload_n 2 dX12_told_37 rfl rfl ?_
        refine z_iadd dX12_told_38 ?_
        refine z_aI hf dX12_told_39  (fun v5 hf => ?_)
        obtain ⟨v6, ev6, hf⟩ := ob hf
        refine z_cVi (ci := 12) (T := TX12) (N := 32) (As := [.int v5]) (rest := []) (zm_X12_says ev6).2 (zm_X12_says ev6).1 (by decide) rfl (Or.inl rfl) mw_12_4 mw_12_5 mw_12_6 mw_1_5 mw_12_7 yk_X12_says (by decide) (by decide) rfl (Nat.le_of_ble_eq_true rfl) rfl dX12_told_40 ?_
        refine z_lv [] [] rfl ?_
        exact zb_X12_told_43 hE hf
      · refine z_lv [(0, .ref l0)] [0] rfl ?_
        exact zb_X12_told_18 hE hf
  · cases hf
set_option maxRecDepth 20000 in
theorem zm_X12_trace {N : Nat} {sh : Sh} {d : Dt} {l0 : Nat} {r : Int32} (hf : f_X12_trace N sh l0 d = some r) : isO sh l0 12 ∧ ∀ (l : Launch) (G : GG), Mt l G yX12_trace cX12_trace 1 (some .int) 1 [.ref l0] (sh, d) (some (.int r)) (sh, d) := by
  have hf0 := hf
  unfold f_X12_trace at hf
  refine ite_d hf (fun hO hf => ?_) (fun _ hf => ?_)
  · refine ⟨hO, fun l G => mt_of (Or.inl (by decide)) (Nat.le_of_ble_eq_true rfl) Le.rf (fun E hE => ?_)⟩
    show Z E yX12_trace cX12_trace 1 (some .int) 1 (sh, d) 0 [(0, .ref l0)] []
    refine z_aload_n 0 dX12_trace_0 rfl rfl ?_
    refine z_gI (ci := 12) (k := 4) (C := RX12) (T := TX12) (N := 32) rfl inlX12 (by decide) mw_38_11 (fun _ _ _ _ h9 => h9) hf (by decide) rfl dX12_trace_1  (fun v1 hf => ?_)
    cases hf
    exact z_ireturn hE rfl dX12_trace_4
  · cases hf
set_option maxRecDepth 20000 in
theorem zb_X12_undo_40 {N : Nat} {sh : Sh} {r : Int32 × Dt} {E : EV} (hE : TG E (some (.int r.1)) (sh, r.2))  {l0 : Nat} {d : Dt} (hf : f_X12_undo_40 N sh l0 d = some r) : Z E yX12_undo cX12_undo 2 (some .int) 2 (sh, d) 40 [(0, .ref l0)] [] := by
  unfold f_X12_undo_40 at hf
  refine z_aload_n 0 dX12_undo_40 rfl rfl ?_
  refine z_iconst 0 0 dX12_undo_41 (by decide) ?_
  refine z_pI (ci := 12) (k := 2) (C := RX12) (T := TX12) (N := 32) rfl inlX12 (by decide) mw_12_3 (fun _ _ _ _ h9 => h9) tyX12 tyX12_ok nmX12 rfl hf (Or.inl (by decide)) rfl rfl rfl dX12_undo_42  (fun d7 hf => ?_)
  refine z_aload_n 0 dX12_undo_45 rfl rfl ?_
  refine z_iconst 0 0 dX12_undo_46 (by decide) ?_
  refine z_pI (ci := 12) (k := 10) (C := RX12) (T := TX12) (N := 32) rfl inlX12 (by decide) mw_11_10 (fun _ _ _ _ h9 => h9) tyX12 tyX12_ok nmX12 rfl hf (Or.inl (by decide)) rfl rfl rfl dX12_undo_47  (fun d8 hf => ?_)
  refine z_aload_n 0 dX12_undo_50 rfl rfl ?_
  refine z_iconst 1 1 dX12_undo_51 (by decide) ?_
  obtain ⟨v9, ev9, hf⟩ := ob hf
  refine z_cVi (ci := 12) (T := TX12) (N := 32) (As := [.int (1 : Int32)]) (rest := []) (zm_X12_says ev9).2 (zm_X12_says ev9).1 (by decide) rfl (Or.inl rfl) mw_12_4 mw_12_5 mw_12_6 mw_1_5 mw_12_7 yk_X12_says (by decide) (by decide) rfl (Nat.le_of_ble_eq_true rfl) rfl dX12_undo_52 ?_
  cases hf
  exact z_ireturn hE rfl dX12_undo_55
set_option maxRecDepth 20000 in
theorem zg_X12_undo_15 {N : Nat} {sh : Sh} {r : Int32 × Dt} {k15 : Nat → Int32 → Dt → Option (Int32 × Dt)} {E : EV} (hE : TG E (some (.int r.1)) (sh, r.2))  (hk15 : ∀ (l0 : Nat) (l1 : Int32) (d : Dt), k15 l0 l1 d = some r → Z E yX12_undo cX12_undo 2 (some .int) 2 (sh, d) 15 [(0, .ref l0), (1, .int l1)] []) {l0 : Nat} {l1 : Int32} {d : Dt} (hf : g_X12_undo_15 N sh k15 l0 l1 d = some r) : Z E yX12_undo cX12_undo 2 (some .int) 2 (sh, d) 15 [(0, .ref l0), (1, .int l1)] [] := by
  unfold g_X12_undo_15 at hf
  refine z_iload_n 1 dX12_undo_15 rfl rfl ?_
  refine z_sipush 15642 15642 dX12_undo_16 (by decide) ?_
  refine z_icmp_ge 40 hf dX12_undo_19 (by decide) (fun hf => ?_) (fun hf => ?_)
  · refine z_lv [(0, .ref l0)] [0] rfl ?_
    exact zb_X12_undo_40 hE hf
  · refine z_aload_n 0 dX12_undo_22 rfl rfl ?_
    refine z_gP (ci := 12) (k := 0) (C := RX12) (T := TX12) (N := 32) rfl inlX12 (by decide) mw_6_19 (fun _ _ _ _ h9 => h9) hf (by decide) rfl dX12_undo_23  (fun v3 hf => ?_)
    refine z_iload_n 1 dX12_undo_26 rfl rfl ?_
    refine z_aload_n 0 dX12_undo_27 rfl rfl ?_
    refine z_gP (ci := 12) (k := 1) (C := RX12) (T := TX12) (N := 32) rfl inlX12 (by decide) mw_6_20 (fun _ _ _ _ h9 => h9) hf (by decide) rfl dX12_undo_28  (fun v4 hf => ?_)
    refine z_iload_n 1 dX12_undo_31 rfl rfl ?_
    refine z_aI hf dX12_undo_32  (fun v5 hf => ?_)
    refine z_sI hf dX12_undo_33  (fun d6 hf => ?_)
    refine z_iinc [(1, .int (l1 + 1)), (0, .ref l0)] 1 (l1 + 1) dX12_undo_34 rfl rfl (by decide) rfl ?_
    refine z_goto 15 dX12_undo_37 (by decide) ?_
    refine z_lv [(0, .ref l0), (1, .int (l1 + 1))] [1, 0] rfl ?_
    exact hk15 _ _ _ hf
set_option maxRecDepth 20000 in
theorem zb_X12_undo_15 {N : Nat} {sh : Sh} {r : Int32 × Dt} {E : EV} (hE : TG E (some (.int r.1)) (sh, r.2))  : ∀ (n : Nat) (l0 : Nat) (l1 : Int32) (d : Dt), f_X12_undo_15 N sh n l0 l1 d = some r → Z E yX12_undo cX12_undo 2 (some .int) 2 (sh, d) 15 [(0, .ref l0), (1, .int l1)] [] := by
  intro n
  induction n with
  | zero => intro l0 l1 d hf; cases hf
  | succ n ih => intro l0 l1 d hf; exact zg_X12_undo_15 hE ih hf
set_option maxRecDepth 20000 in
theorem zm_X12_undo {N : Nat} {sh : Sh} {d : Dt} {l0 : Nat} {r : Int32 × Dt} (hf : f_X12_undo N sh l0 d = some r) : isO sh l0 12 ∧ ∀ (l : Launch) (G : GG), Mt l G yX12_undo cX12_undo 2 (some .int) 2 [.ref l0] (sh, d) (some (.int r.1)) (sh, r.2) := by
  have hf0 := hf
  unfold f_X12_undo at hf
  refine ite_d hf (fun hO hf => ?_) (fun _ hf => ?_)
  · refine ⟨hO, fun l G => mt_of (Or.inl (by decide)) (Nat.le_of_ble_eq_true rfl) Le.rf (fun E hE => ?_)⟩
    show Z E yX12_undo cX12_undo 2 (some .int) 2 (sh, d) 0 [(0, .ref l0)] []
    refine z_aload_n 0 dX12_undo_0 rfl rfl ?_
    refine z_gI (ci := 12) (k := 2) (C := RX12) (T := TX12) (N := 32) rfl inlX12 (by decide) mw_12_3 (fun _ _ _ _ h9 => h9) hf (by decide) rfl dX12_undo_1  (fun v1 hf => ?_)
    refine z_if_ne 13 hf dX12_undo_4 (by decide) (fun hf => ?_) (fun hf => ?_)
    · refine z_iconst 0 0 dX12_undo_13 (by decide) ?_
      refine z_istore_n [(1, .int (0 : Int32)), (0, .ref l0)] dX12_undo_14 rfl (by decide) rfl ?_
      refine z_lv [(0, .ref l0), (1, .int (0 : Int32))] [1, 0] rfl ?_
      exact zb_X12_undo_15 hE N _ _ _ hf
    · refine z_aload_n 0 dX12_undo_7 rfl rfl ?_
      refine z_iconst 0 0 dX12_undo_8 (by decide) ?_
      obtain ⟨v2, ev2, hf⟩ := ob hf
      refine z_cVi (ci := 12) (T := TX12) (N := 32) (As := [.int (0 : Int32)]) (rest := []) (zm_X12_says ev2).2 (zm_X12_says ev2).1 (by decide) rfl (Or.inl rfl) mw_12_4 mw_12_5 mw_12_6 mw_1_5 mw_12_7 yk_X12_says (by decide) (by decide) rfl (Nat.le_of_ble_eq_true rfl) rfl dX12_undo_9 ?_
      cases hf
      exact z_ireturn hE rfl dX12_undo_12
  · cases hf
set_option maxRecDepth 20000 in
theorem zb_X12_way_16 {N : Nat} {sh : Sh} {r : Int32 × Dt} {E : EV} (hE : TG E (some (.int r.1)) (sh, r.2))  {l0 : Nat} {d : Dt} (hf : f_X12_way_16 N sh l0 d = some r) : Z E yX12_way cX12_way 3 (some .int) 5 (sh, d) 16 [(0, .ref l0)] [] := by
  unfold f_X12_way_16 at hf
  refine z_aload_n 0 dX12_way_16 rfl rfl ?_
  refine z_bipush (-2) (-2) dX12_way_17 (by decide) ?_
  obtain ⟨v10, ev10, hf⟩ := ob hf
  refine z_cVi (ci := 12) (T := TX12) (N := 32) (As := [.int (-2 : Int32)]) (rest := []) (zm_X12_refuses ev10).2 (zm_X12_refuses ev10).1 (by decide) rfl (Or.inl rfl) mw_11_14 mw_11_15 mw_11_16 mw_1_5 mw_11_17 yk_X12_refuses (by decide) (by decide) rfl (Nat.le_of_ble_eq_true rfl) rfl dX12_way_19 ?_
  cases hf
  exact z_ireturn hE rfl dX12_way_22
set_option maxRecDepth 20000 in
theorem zb_X12_way_67 {N : Nat} {sh : Sh} {r : Int32 × Dt} {E : EV} (hE : TG E (some (.int r.1)) (sh, r.2))  {t0 : Int32} {d : Dt} (hf : f_X12_way_67 N sh t0 d = some r) : Z E yX12_way cX12_way 3 (some .int) 5 (sh, d) 67 [] [.int t0] := by
  unfold f_X12_way_67 at hf
  cases hf
  exact z_ireturn hE rfl dX12_way_67
set_option maxRecDepth 20000 in
theorem zm_X12_way {N : Nat} {sh : Sh} {d : Dt} {l0 : Nat} {l1 : Int32} {l2 : Int32} {r : Int32 × Dt} (hf : f_X12_way N sh l0 l1 l2 d = some r) : isO sh l0 12 ∧ ∀ (l : Launch) (G : GG), Mt l G yX12_way cX12_way 3 (some .int) 5 [.ref l0, .int l1, .int l2] (sh, d) (some (.int r.1)) (sh, r.2) := by
  have hf0 := hf
  unfold f_X12_way at hf
  refine ite_d hf (fun hO hf => ?_) (fun _ hf => ?_)
  · refine ⟨hO, fun l G => mt_of (Or.inl (by decide)) (Nat.le_of_ble_eq_true rfl) Le.rf (fun E hE => ?_)⟩
    show Z E yX12_way cX12_way 3 (some .int) 5 (sh, d) 0 [(0, .ref l0), (1, .int l1), (2, .int l2)] []
    refine z_aload_n 0 dX12_way_0 rfl rfl ?_
    refine z_iload_n 1 dX12_way_1 rfl rfl ?_
    obtain ⟨v1, ev1, hf⟩ := ob hf
    refine z_cVi (ci := 12) (T := TX12) (N := 32) (As := [.int l1]) (rest := []) (zm_X12_isCrossing ev1).2 (zm_X12_isCrossing ev1).1 (by decide) rfl (Or.inl rfl) mw_13_6 mw_13_7 mw_13_8 mw_1_5 mw_13_9 yk_X12_isCrossing (by decide) (by decide) rfl (Nat.le_of_ble_eq_true rfl) rfl dX12_way_2 ?_
    refine z_if_eq 16 hf dX12_way_5 (by decide) (fun hf => ?_) (fun hf => ?_)
    · refine z_lv [(0, .ref l0)] [0] rfl ?_
      exact zb_X12_way_16 hE hf
    · refine z_aload_n 0 dX12_way_8 rfl rfl ?_
      refine z_iload_n 2 dX12_way_9 rfl rfl ?_
      obtain ⟨v2, ev2, hf⟩ := ob hf
      refine z_cVi (ci := 12) (T := TX12) (N := 32) (As := [.int l2]) (rest := []) (zm_X12_isCrossing ev2).2 (zm_X12_isCrossing ev2).1 (by decide) rfl (Or.inl rfl) mw_13_6 mw_13_7 mw_13_8 mw_1_5 mw_13_9 yk_X12_isCrossing (by decide) (by decide) rfl (Nat.le_of_ble_eq_true rfl) rfl dX12_way_10 ?_
      refine z_if_ne 23 hf dX12_way_13 (by decide) (fun hf => ?_) (fun hf => ?_)
      · refine z_aload_n 0 dX12_way_23 rfl rfl ?_
        obtain ⟨v3, ev3, hf⟩ := ob hf
        refine z_cVv (ci := 12) (T := TX12) (N := 32) (As := []) (rest := []) (zm_X12_reckon ev3).2 (zm_X12_reckon ev3).1 (by decide) rfl (Or.inl rfl) mw_17_20 mw_17_21 mw_17_22 mw_1_5 mw_17_23 yk_X12_reckon (by decide) (by decide) rfl (Nat.le_of_ble_eq_true rfl) rfl dX12_way_24 ?_
        refine z_aload_n 0 dX12_way_27 rfl rfl ?_
        refine z_gP (ci := 12) (k := 9) (C := RX12) (T := TX12) (N := 32) rfl inlX12 (by decide) mw_6_23 (fun _ _ _ _ h9 => h9) hf (by decide) rfl dX12_way_28  (fun v4 hf => ?_)
        refine z_bipush 60 60 dX12_way_31 (by decide) ?_
        refine z_iload_n 1 dX12_way_33 rfl rfl ?_
        refine z_imul dX12_way_34 ?_
        refine z_iload_n 2 dX12_way_35 rfl rfl ?_
        refine z_iadd dX12_way_36 ?_
        refine z_aI hf dX12_way_37  (fun v5 hf => ?_)
        refine z_ldc mw_17_19 dX12_way_38 ?_
        refine z_icmp_lt 52 hf dX12_way_40 (by decide) (fun hf => ?_) (fun hf => ?_)
        · refine z_aload_n 0 dX12_way_52 rfl rfl ?_
          refine z_aload_n 0 dX12_way_53 rfl rfl ?_
          refine z_gP (ci := 12) (k := 9) (C := RX12) (T := TX12) (N := 32) rfl inlX12 (by decide) mw_6_23 (fun _ _ _ _ h9 => h9) hf (by decide) rfl dX12_way_54  (fun v6 hf => ?_)
          refine z_bipush 60 60 dX12_way_57 (by decide) ?_
          refine z_iload_n 1 dX12_way_59 rfl rfl ?_
          refine z_imul dX12_way_60 ?_
          refine z_iload_n 2 dX12_way_61 rfl rfl ?_
          refine z_iadd dX12_way_62 ?_
          refine z_aI hf dX12_way_63  (fun v7 hf => ?_)
          obtain ⟨v8, ev8, hf⟩ := ob hf
          refine z_cVi (ci := 12) (T := TX12) (N := 32) (As := [.int v7]) (rest := []) (zm_X12_says ev8).2 (zm_X12_says ev8).1 (by decide) rfl (Or.inl rfl) mw_12_4 mw_12_5 mw_12_6 mw_1_5 mw_12_7 yk_X12_says (by decide) (by decide) rfl (Nat.le_of_ble_eq_true rfl) rfl dX12_way_64 ?_
          refine z_lv [] [] rfl ?_
          exact zb_X12_way_67 hE hf
        · refine z_aload_n 0 dX12_way_43 rfl rfl ?_
          refine z_bipush (-8) (-8) dX12_way_44 (by decide) ?_
          obtain ⟨v9, ev9, hf⟩ := ob hf
          refine z_cVi (ci := 12) (T := TX12) (N := 32) (As := [.int (-8 : Int32)]) (rest := []) (zm_X12_refuses ev9).2 (zm_X12_refuses ev9).1 (by decide) rfl (Or.inl rfl) mw_11_14 mw_11_15 mw_11_16 mw_1_5 mw_11_17 yk_X12_refuses (by decide) (by decide) rfl (Nat.le_of_ble_eq_true rfl) rfl dX12_way_46 ?_
          refine z_goto 67 dX12_way_49 (by decide) ?_
          refine z_lv [] [] rfl ?_
          exact zb_X12_way_67 hE hf
      · refine z_lv [(0, .ref l0)] [0] rfl ?_
        exact zb_X12_way_16 hE hf
  · cases hf
set_option maxRecDepth 20000 in
theorem zb_X12_wayAt_16 {N : Nat} {sh : Sh} {r : Int32 × Dt} {E : EV} (hE : TG E (some (.int r.1)) (sh, r.2))  {l0 : Nat} {d : Dt} (hf : f_X12_wayAt_16 N sh l0 d = some r) : Z E yX12_wayAt cX12_wayAt 7 (some .int) 5 (sh, d) 16 [(0, .ref l0)] [] := by
  unfold f_X12_wayAt_16 at hf
  refine z_aload_n 0 dX12_wayAt_16 rfl rfl ?_
  refine z_bipush (-2) (-2) dX12_wayAt_17 (by decide) ?_
  obtain ⟨v7, ev7, hf⟩ := ob hf
  refine z_cVi (ci := 12) (T := TX12) (N := 32) (As := [.int (-2 : Int32)]) (rest := []) (zm_X12_refuses ev7).2 (zm_X12_refuses ev7).1 (by decide) rfl (Or.inl rfl) mw_11_14 mw_11_15 mw_11_16 mw_1_5 mw_11_17 yk_X12_refuses (by decide) (by decide) rfl (Nat.le_of_ble_eq_true rfl) rfl dX12_wayAt_19 ?_
  cases hf
  exact z_ireturn hE rfl dX12_wayAt_22
set_option maxRecDepth 20000 in
theorem zb_X12_wayAt_103 {N : Nat} {sh : Sh} {r : Int32 × Dt} {E : EV} (hE : TG E (some (.int r.1)) (sh, r.2))  {l0 : Nat} {d : Dt} (hf : f_X12_wayAt_103 N sh l0 d = some r) : Z E yX12_wayAt cX12_wayAt 7 (some .int) 5 (sh, d) 103 [(0, .ref l0)] [] := by
  unfold f_X12_wayAt_103 at hf
  refine z_aload_n 0 dX12_wayAt_103 rfl rfl ?_
  refine z_iconst (-1) (-1) dX12_wayAt_104 (by decide) ?_
  obtain ⟨v10, ev10, hf⟩ := ob hf
  refine z_cVi (ci := 12) (T := TX12) (N := 32) (As := [.int (-1 : Int32)]) (rest := []) (zm_X12_says ev10).2 (zm_X12_says ev10).1 (by decide) rfl (Or.inl rfl) mw_12_4 mw_12_5 mw_12_6 mw_1_5 mw_12_7 yk_X12_says (by decide) (by decide) rfl (Nat.le_of_ble_eq_true rfl) rfl dX12_wayAt_105 ?_
  cases hf
  exact z_ireturn hE rfl dX12_wayAt_108
set_option maxRecDepth 20000 in
theorem zb_X12_wayAt_80 {N : Nat} {sh : Sh} {r : Int32 × Dt} {E : EV} (hE : TG E (some (.int r.1)) (sh, r.2))  {l0 : Nat} {l6 : Int32} {d : Dt} (hf : f_X12_wayAt_80 N sh l0 l6 d = some r) : Z E yX12_wayAt cX12_wayAt 7 (some .int) 5 (sh, d) 80 [(0, .ref l0), (6, .int l6)] [] := by
  unfold f_X12_wayAt_80 at hf
  refine z_aload_n 0 dX12_wayAt_80 rfl rfl ?_
  refine z_iload 1 dX12_wayAt_81 rfl ?_
  obtain ⟨v11, ev11, hf⟩ := ob hf
  refine z_cVi (ci := 12) (T := TX12) (N := 32) (As := [.int l6]) (rest := []) (zm_X12_says ev11).2 (zm_X12_says ev11).1 (by decide) rfl (Or.inl rfl) mw_12_4 mw_12_5 mw_12_6 mw_1_5 mw_12_7 yk_X12_says (by decide) (by decide) rfl (Nat.le_of_ble_eq_true rfl) rfl dX12_wayAt_83 ?_
  cases hf
  exact z_ireturn hE rfl dX12_wayAt_86
set_option maxRecDepth 20000 in
theorem zg_X12_wayAt_56 {N : Nat} {sh : Sh} {r : Int32 × Dt} {k56 : Nat → Int32 → Int32 → Int32 → Int32 → Dt → Option (Int32 × Dt)} {E : EV} (hE : TG E (some (.int r.1)) (sh, r.2))  (hk56 : ∀ (l0 : Nat) (l2 : Int32) (l3 : Int32) (l4 : Int32) (l5 : Int32) (d : Dt), k56 l0 l2 l3 l4 l5 d = some r → Z E yX12_wayAt cX12_wayAt 7 (some .int) 5 (sh, d) 56 [(0, .ref l0), (2, .int l2), (3, .int l3), (4, .int l4), (5, .int l5)] []) {l0 : Nat} {l2 : Int32} {l3 : Int32} {l4 : Int32} {l5 : Int32} {d : Dt} (hf : g_X12_wayAt_56 N sh k56 l0 l2 l3 l4 l5 d = some r) : Z E yX12_wayAt cX12_wayAt 7 (some .int) 5 (sh, d) 56 [(0, .ref l0), (2, .int l2), (3, .int l3), (4, .int l4), (5, .int l5)] [] := by
  unfold g_X12_wayAt_56 at hf
  refine z_iload_n 2 dX12_wayAt_56 rfl rfl ?_
  refine z_if_lt 103 hf dX12_wayAt_57 (by decide) (fun hf => ?_) (fun hf => ?_)
  · refine z_lv [(0, .ref l0)] [0] rfl ?_
    exact zb_X12_wayAt_103 hE hf
  · refine z_iload 3 dX12_wayAt_60 rfl ?_
    refine z_iload_n 1 dX12_wayAt_62 rfl rfl ?_
    refine z_icmp_eq 103 hf dX12_wayAt_63 (by decide) (fun hf => ?_) (fun hf => ?_)
    · refine z_lv [(0, .ref l0)] [0] rfl ?_
      exact zb_X12_wayAt_103 hE hf
    · refine z_aload_n 0 dX12_wayAt_66 rfl rfl ?_
      refine z_iload 3 dX12_wayAt_67 rfl ?_
      refine z_iload_n 1 dX12_wayAt_69 rfl rfl ?_
      obtain ⟨v8, ev8, hf⟩ := ob hf
      refine z_cVi (ci := 12) (T := TX12) (N := 32) (As := [.int l4, .int l2]) (rest := []) (zm_X12_onTo ev8).2 (zm_X12_onTo ev8).1 (by decide) rfl (Or.inl rfl) mw_19_9 mw_19_10 mw_19_11 mw_1_5 mw_19_12 yk_X12_onTo (by decide) (by decide) rfl (Nat.le_of_ble_eq_true rfl) rfl dX12_wayAt_70 ?_
      refine z_istore [(6, .int v8), (0, .ref l0), (2, .int l2), (3, .int l3), (4, .int l4), (5, .int l5)] dX12_wayAt_73 (by decide) rfl ?_
      refine z_iload 5 dX12_wayAt_75 rfl ?_
      refine z_if_ne 87 hf dX12_wayAt_77 (by decide) (fun hf => ?_) (fun hf => ?_)
      · refine z_iinc [(5, .int (l5 + (-1))), (6, .int v8), (0, .ref l0), (2, .int l2), (3, .int l3), (4, .int l4)] 5 (l5 + (-1)) dX12_wayAt_87 rfl rfl (by decide) rfl ?_
        refine z_aload_n 2 dX12_wayAt_90 rfl rfl ?_
        refine z_iload 1 dX12_wayAt_91 rfl ?_
        refine z_iload 5 dX12_wayAt_93 rfl ?_
        obtain ⟨v9, ev9, hf⟩ := ob hf
        refine z_cVi (ci := 12) (T := TX12) (N := 32) (As := [.int v8, .int l4]) (rest := []) (zm_X12_leads ev9).2 (zm_X12_leads ev9).1 (by decide) rfl (Or.inl rfl) mw_19_13 mw_19_14 mw_19_15 mw_1_5 mw_19_16 yk_X12_leads (by decide) (by decide) rfl (Nat.le_of_ble_eq_true rfl) rfl dX12_wayAt_95 ?_
        refine z_istore [(4, .int v9), (5, .int (l5 + (-1))), (6, .int v8), (0, .ref l0), (2, .int l2), (3, .int l3)] dX12_wayAt_98 (by decide) rfl ?_
        refine z_goto 56 dX12_wayAt_100 (by decide) ?_
        refine z_lv [(0, .ref l0), (2, .int l2), (3, .int l3), (4, .int v9), (5, .int (l5 + (-1)))] [3, 4, 5, 0, 1] rfl ?_
        exact hk56 _ _ _ _ _ _ hf
      · refine z_lv [(0, .ref l0), (6, .int v8)] [1, 0] rfl ?_
        exact zb_X12_wayAt_80 hE hf
set_option maxRecDepth 20000 in
theorem zb_X12_wayAt_56 {N : Nat} {sh : Sh} {r : Int32 × Dt} {E : EV} (hE : TG E (some (.int r.1)) (sh, r.2))  : ∀ (n : Nat) (l0 : Nat) (l2 : Int32) (l3 : Int32) (l4 : Int32) (l5 : Int32) (d : Dt), f_X12_wayAt_56 N sh n l0 l2 l3 l4 l5 d = some r → Z E yX12_wayAt cX12_wayAt 7 (some .int) 5 (sh, d) 56 [(0, .ref l0), (2, .int l2), (3, .int l3), (4, .int l4), (5, .int l5)] [] := by
  intro n
  induction n with
  | zero => intro l0 l2 l3 l4 l5 d hf; cases hf
  | succ n ih => intro l0 l2 l3 l4 l5 d hf; exact zg_X12_wayAt_56 hE ih hf
set_option maxRecDepth 20000 in
theorem zm_X12_wayAt {N : Nat} {sh : Sh} {d : Dt} {l0 : Nat} {l1 : Int32} {l2 : Int32} {l3 : Int32} {r : Int32 × Dt} (hf : f_X12_wayAt N sh l0 l1 l2 l3 d = some r) : isO sh l0 12 ∧ ∀ (l : Launch) (G : GG), Mt l G yX12_wayAt cX12_wayAt 7 (some .int) 5 [.ref l0, .int l1, .int l2, .int l3] (sh, d) (some (.int r.1)) (sh, r.2) := by
  have hf0 := hf
  unfold f_X12_wayAt at hf
  refine ite_d hf (fun hO hf => ?_) (fun _ hf => ?_)
  · refine ⟨hO, fun l G => mt_of (Or.inl (by decide)) (Nat.le_of_ble_eq_true rfl) Le.rf (fun E hE => ?_)⟩
    show Z E yX12_wayAt cX12_wayAt 7 (some .int) 5 (sh, d) 0 [(0, .ref l0), (1, .int l1), (2, .int l2), (3, .int l3)] []
    refine z_aload_n 0 dX12_wayAt_0 rfl rfl ?_
    refine z_iload_n 1 dX12_wayAt_1 rfl rfl ?_
    obtain ⟨v1, ev1, hf⟩ := ob hf
    refine z_cVi (ci := 12) (T := TX12) (N := 32) (As := [.int l1]) (rest := []) (zm_X12_isCrossing ev1).2 (zm_X12_isCrossing ev1).1 (by decide) rfl (Or.inl rfl) mw_13_6 mw_13_7 mw_13_8 mw_1_5 mw_13_9 yk_X12_isCrossing (by decide) (by decide) rfl (Nat.le_of_ble_eq_true rfl) rfl dX12_wayAt_2 ?_
    refine z_if_eq 16 hf dX12_wayAt_5 (by decide) (fun hf => ?_) (fun hf => ?_)
    · refine z_lv [(0, .ref l0)] [0] rfl ?_
      exact zb_X12_wayAt_16 hE hf
    · refine z_aload_n 0 dX12_wayAt_8 rfl rfl ?_
      refine z_iload_n 2 dX12_wayAt_9 rfl rfl ?_
      obtain ⟨v2, ev2, hf⟩ := ob hf
      refine z_cVi (ci := 12) (T := TX12) (N := 32) (As := [.int l2]) (rest := []) (zm_X12_isCrossing ev2).2 (zm_X12_isCrossing ev2).1 (by decide) rfl (Or.inl rfl) mw_13_6 mw_13_7 mw_13_8 mw_1_5 mw_13_9 yk_X12_isCrossing (by decide) (by decide) rfl (Nat.le_of_ble_eq_true rfl) rfl dX12_wayAt_10 ?_
      refine z_if_ne 23 hf dX12_wayAt_13 (by decide) (fun hf => ?_) (fun hf => ?_)
      · refine z_aload_n 0 dX12_wayAt_23 rfl rfl ?_
        obtain ⟨v3, ev3, hf⟩ := ob hf
        refine z_cVv (ci := 12) (T := TX12) (N := 32) (As := []) (rest := []) (zm_X12_reckon ev3).2 (zm_X12_reckon ev3).1 (by decide) rfl (Or.inl rfl) mw_17_20 mw_17_21 mw_17_22 mw_1_5 mw_17_23 yk_X12_reckon (by decide) (by decide) rfl (Nat.le_of_ble_eq_true rfl) rfl dX12_wayAt_24 ?_
        refine z_aload_n 0 dX12_wayAt_27 rfl rfl ?_
        refine z_gP (ci := 12) (k := 9) (C := RX12) (T := TX12) (N := 32) rfl inlX12 (by decide) mw_6_23 (fun _ _ _ _ h9 => h9) hf (by decide) rfl dX12_wayAt_28  (fun v4 hf => ?_)
        refine z_bipush 60 60 dX12_wayAt_31 (by decide) ?_
        refine z_iload_n 1 dX12_wayAt_33 rfl rfl ?_
        refine z_imul dX12_wayAt_34 ?_
        refine z_iload_n 2 dX12_wayAt_35 rfl rfl ?_
        refine z_iadd dX12_wayAt_36 ?_
        refine z_aI hf dX12_wayAt_37  (fun v5 hf => ?_)
        refine z_ldc mw_17_19 dX12_wayAt_38 ?_
        refine z_icmp_lt 50 hf dX12_wayAt_40 (by decide) (fun hf => ?_) (fun hf => ?_)
        · refine z_iload_n 1 dX12_wayAt_50 rfl rfl ?_
          refine z_istore [(4, .int l1), (0, .ref l0), (1, .int l1), (2, .int l2), (3, .int l3)] dX12_wayAt_51 (by decide) rfl ?_
          refine z_iload_n 4 dX12_wayAt_53 rfl rfl ?_
          refine z_istore [(5, .int l3), (4, .int l1), (0, .ref l0), (1, .int l1), (2, .int l2), (3, .int l3)] dX12_wayAt_54 (by decide) rfl ?_
          refine z_lv [(0, .ref l0), (2, .int l2), (3, .int l3), (4, .int l1), (5, .int l3)] [2, 4, 5, 1, 0] rfl ?_
          exact zb_X12_wayAt_56 hE N _ _ _ _ _ _ hf
        · refine z_aload_n 0 dX12_wayAt_43 rfl rfl ?_
          refine z_bipush (-8) (-8) dX12_wayAt_44 (by decide) ?_
          obtain ⟨v6, ev6, hf⟩ := ob hf
          refine z_cVi (ci := 12) (T := TX12) (N := 32) (As := [.int (-8 : Int32)]) (rest := []) (zm_X12_refuses ev6).2 (zm_X12_refuses ev6).1 (by decide) rfl (Or.inl rfl) mw_11_14 mw_11_15 mw_11_16 mw_1_5 mw_11_17 yk_X12_refuses (by decide) (by decide) rfl (Nat.le_of_ble_eq_true rfl) rfl dX12_wayAt_46 ?_
          cases hf
          exact z_ireturn hE rfl dX12_wayAt_49
      · refine z_lv [(0, .ref l0)] [0] rfl ?_
        exact zb_X12_wayAt_16 hE hf
  · cases hf
set_option maxRecDepth 20000 in
theorem zm_J13_bitCount_95d88 {N : Nat} {sh : Sh} {d : Dt} {l0 : Int64} {r : Int32} (hf : f_J13_bitCount_95d88 N sh l0 d = some r) : ∀ (l : Launch) (G : GG), Mt l G yJ13_bitCount_95d88 cJ13_bitCount_95d88 2 (some .int) 1 [.long l0] (sh, d) (some (.int r)) (sh, d) := by
  have hf0 := hf
  unfold f_J13_bitCount_95d88 at hf
  refine fun l G => mt_of (Or.inr (by decide)) (Nat.le_of_ble_eq_true rfl) Le.rf (fun E hE => ?_)
  show Z E yJ13_bitCount_95d88 cJ13_bitCount_95d88 2 (some .int) 1 (sh, d) 0 [(0, .long l0)] []
  refine z_lload_n 0 dJ13_bitCount_95d88_0 rfl rfl ?_
  refine z_lload_n 0 dJ13_bitCount_95d88_1 rfl rfl ?_
  refine z_iconst 1 1 dJ13_bitCount_95d88_2 (by decide) ?_
  refine z_lushr dJ13_bitCount_95d88_3 ?_
  refine z_ldc2 mw_17_8 dJ13_bitCount_95d88_4 ?_
  refine z_land dJ13_bitCount_95d88_7 ?_
  refine z_lsub dJ13_bitCount_95d88_8 ?_
  refine z_lstore_n [(0, .long (l0 - (((l0.toUInt64 >>> ((1 : Int32).toInt64.toUInt64 &&& Int64.toUInt64 63)).toInt64) &&& (6148914691236517205 : Int64))))] dJ13_bitCount_95d88_9 rfl (by decide) rfl ?_
  refine z_lload_n 0 dJ13_bitCount_95d88_10 rfl rfl ?_
  refine z_ldc2 mw_17_9 dJ13_bitCount_95d88_11 ?_
  refine z_land dJ13_bitCount_95d88_14 ?_
  refine z_lload_n 0 dJ13_bitCount_95d88_15 rfl rfl ?_
  refine z_iconst 2 2 dJ13_bitCount_95d88_16 (by decide) ?_
  refine z_lushr dJ13_bitCount_95d88_17 ?_
  refine z_ldc2 mw_17_9 dJ13_bitCount_95d88_18 ?_
  refine z_land dJ13_bitCount_95d88_21 ?_
  refine z_ladd dJ13_bitCount_95d88_22 ?_
  refine z_lstore_n [(0, .long (((l0 - (((l0.toUInt64 >>> ((1 : Int32).toInt64.toUInt64 &&& Int64.toUInt64 63)).toInt64) &&& (6148914691236517205 : Int64))) &&& (3689348814741910323 : Int64)) + ((((l0 - (((l0.toUInt64 >>> ((1 : Int32).toInt64.toUInt64 &&& Int64.toUInt64 63)).toInt64) &&& (6148914691236517205 : Int64))).toUInt64 >>> ((2 : Int32).toInt64.toUInt64 &&& Int64.toUInt64 63)).toInt64) &&& (3689348814741910323 : Int64))))] dJ13_bitCount_95d88_23 rfl (by decide) rfl ?_
  refine z_lload_n 0 dJ13_bitCount_95d88_24 rfl rfl ?_
  refine z_lload_n 0 dJ13_bitCount_95d88_25 rfl rfl ?_
  refine z_iconst 4 4 dJ13_bitCount_95d88_26 (by decide) ?_
  refine z_lushr dJ13_bitCount_95d88_27 ?_
  refine z_ladd dJ13_bitCount_95d88_28 ?_
  refine z_ldc2 mw_17_10 dJ13_bitCount_95d88_29 ?_
  refine z_land dJ13_bitCount_95d88_32 ?_
  refine z_lstore_n [(0, .long (((((l0 - (((l0.toUInt64 >>> ((1 : Int32).toInt64.toUInt64 &&& Int64.toUInt64 63)).toInt64) &&& (6148914691236517205 : Int64))) &&& (3689348814741910323 : Int64)) + ((((l0 - (((l0.toUInt64 >>> ((1 : Int32).toInt64.toUInt64 &&& Int64.toUInt64 63)).toInt64) &&& (6148914691236517205 : Int64))).toUInt64 >>> ((2 : Int32).toInt64.toUInt64 &&& Int64.toUInt64 63)).toInt64) &&& (3689348814741910323 : Int64))) + (((((l0 - (((l0.toUInt64 >>> ((1 : Int32).toInt64.toUInt64 &&& Int64.toUInt64 63)).toInt64) &&& (6148914691236517205 : Int64))) &&& (3689348814741910323 : Int64)) + ((((l0 - (((l0.toUInt64 >>> ((1 : Int32).toInt64.toUInt64 &&& Int64.toUInt64 63)).toInt64) &&& (6148914691236517205 : Int64))).toUInt64 >>> ((2 : Int32).toInt64.toUInt64 &&& Int64.toUInt64 63)).toInt64) &&& (3689348814741910323 : Int64))).toUInt64 >>> ((4 : Int32).toInt64.toUInt64 &&& Int64.toUInt64 63)).toInt64)) &&& (1085102592571150095 : Int64)))] dJ13_bitCount_95d88_33 rfl (by decide) rfl ?_
  refine z_lload_n 0 dJ13_bitCount_95d88_34 rfl rfl ?_
  refine z_lload_n 0 dJ13_bitCount_95d88_35 rfl rfl ?_
  refine z_bipush 8 8 dJ13_bitCount_95d88_36 (by decide) ?_
  refine z_lushr dJ13_bitCount_95d88_38 ?_
  refine z_ladd dJ13_bitCount_95d88_39 ?_
  refine z_lstore_n [(0, .long ((((((l0 - (((l0.toUInt64 >>> ((1 : Int32).toInt64.toUInt64 &&& Int64.toUInt64 63)).toInt64) &&& (6148914691236517205 : Int64))) &&& (3689348814741910323 : Int64)) + ((((l0 - (((l0.toUInt64 >>> ((1 : Int32).toInt64.toUInt64 &&& Int64.toUInt64 63)).toInt64) &&& (6148914691236517205 : Int64))).toUInt64 >>> ((2 : Int32).toInt64.toUInt64 &&& Int64.toUInt64 63)).toInt64) &&& (3689348814741910323 : Int64))) + (((((l0 - (((l0.toUInt64 >>> ((1 : Int32).toInt64.toUInt64 &&& Int64.toUInt64 63)).toInt64) &&& (6148914691236517205 : Int64))) &&& (3689348814741910323 : Int64)) + ((((l0 - (((l0.toUInt64 >>> ((1 : Int32).toInt64.toUInt64 &&& Int64.toUInt64 63)).toInt64) &&& (6148914691236517205 : Int64))).toUInt64 >>> ((2 : Int32).toInt64.toUInt64 &&& Int64.toUInt64 63)).toInt64) &&& (3689348814741910323 : Int64))).toUInt64 >>> ((4 : Int32).toInt64.toUInt64 &&& Int64.toUInt64 63)).toInt64)) &&& (1085102592571150095 : Int64)) + (((((((l0 - (((l0.toUInt64 >>> ((1 : Int32).toInt64.toUInt64 &&& Int64.toUInt64 63)).toInt64) &&& (6148914691236517205 : Int64))) &&& (3689348814741910323 : Int64)) + ((((l0 - (((l0.toUInt64 >>> ((1 : Int32).toInt64.toUInt64 &&& Int64.toUInt64 63)).toInt64) &&& (6148914691236517205 : Int64))).toUInt64 >>> ((2 : Int32).toInt64.toUInt64 &&& Int64.toUInt64 63)).toInt64) &&& (3689348814741910323 : Int64))) + (((((l0 - (((l0.toUInt64 >>> ((1 : Int32).toInt64.toUInt64 &&& Int64.toUInt64 63)).toInt64) &&& (6148914691236517205 : Int64))) &&& (3689348814741910323 : Int64)) + ((((l0 - (((l0.toUInt64 >>> ((1 : Int32).toInt64.toUInt64 &&& Int64.toUInt64 63)).toInt64) &&& (6148914691236517205 : Int64))).toUInt64 >>> ((2 : Int32).toInt64.toUInt64 &&& Int64.toUInt64 63)).toInt64) &&& (3689348814741910323 : Int64))).toUInt64 >>> ((4 : Int32).toInt64.toUInt64 &&& Int64.toUInt64 63)).toInt64)) &&& (1085102592571150095 : Int64)).toUInt64 >>> ((8 : Int32).toInt64.toUInt64 &&& Int64.toUInt64 63)).toInt64)))] dJ13_bitCount_95d88_40 rfl (by decide) rfl ?_
  refine z_lload_n 0 dJ13_bitCount_95d88_41 rfl rfl ?_
  refine z_lload_n 0 dJ13_bitCount_95d88_42 rfl rfl ?_
  refine z_bipush 16 16 dJ13_bitCount_95d88_43 (by decide) ?_
  refine z_lushr dJ13_bitCount_95d88_45 ?_
  refine z_ladd dJ13_bitCount_95d88_46 ?_
  refine z_lstore_n [(0, .long (((((((l0 - (((l0.toUInt64 >>> ((1 : Int32).toInt64.toUInt64 &&& Int64.toUInt64 63)).toInt64) &&& (6148914691236517205 : Int64))) &&& (3689348814741910323 : Int64)) + ((((l0 - (((l0.toUInt64 >>> ((1 : Int32).toInt64.toUInt64 &&& Int64.toUInt64 63)).toInt64) &&& (6148914691236517205 : Int64))).toUInt64 >>> ((2 : Int32).toInt64.toUInt64 &&& Int64.toUInt64 63)).toInt64) &&& (3689348814741910323 : Int64))) + (((((l0 - (((l0.toUInt64 >>> ((1 : Int32).toInt64.toUInt64 &&& Int64.toUInt64 63)).toInt64) &&& (6148914691236517205 : Int64))) &&& (3689348814741910323 : Int64)) + ((((l0 - (((l0.toUInt64 >>> ((1 : Int32).toInt64.toUInt64 &&& Int64.toUInt64 63)).toInt64) &&& (6148914691236517205 : Int64))).toUInt64 >>> ((2 : Int32).toInt64.toUInt64 &&& Int64.toUInt64 63)).toInt64) &&& (3689348814741910323 : Int64))).toUInt64 >>> ((4 : Int32).toInt64.toUInt64 &&& Int64.toUInt64 63)).toInt64)) &&& (1085102592571150095 : Int64)) + (((((((l0 - (((l0.toUInt64 >>> ((1 : Int32).toInt64.toUInt64 &&& Int64.toUInt64 63)).toInt64) &&& (6148914691236517205 : Int64))) &&& (3689348814741910323 : Int64)) + ((((l0 - (((l0.toUInt64 >>> ((1 : Int32).toInt64.toUInt64 &&& Int64.toUInt64 63)).toInt64) &&& (6148914691236517205 : Int64))).toUInt64 >>> ((2 : Int32).toInt64.toUInt64 &&& Int64.toUInt64 63)).toInt64) &&& (3689348814741910323 : Int64))) + (((((l0 - (((l0.toUInt64 >>> ((1 : Int32).toInt64.toUInt64 &&& Int64.toUInt64 63)).toInt64) &&& (6148914691236517205 : Int64))) &&& (3689348814741910323 : Int64)) + ((((l0 - (((l0.toUInt64 >>> ((1 : Int32).toInt64.toUInt64 &&& Int64.toUInt64 63)).toInt64) &&& (6148914691236517205 : Int64))).toUInt64 >>> ((2 : Int32).toInt64.toUInt64 &&& Int64.toUInt64 63)).toInt64) &&& (3689348814741910323 : Int64))).toUInt64 >>> ((4 : Int32).toInt64.toUInt64 &&& Int64.toUInt64 63)).toInt64)) &&& (1085102592571150095 : Int64)).toUInt64 >>> ((8 : Int32).toInt64.toUInt64 &&& Int64.toUInt64 63)).toInt64)) + ((((((((l0 - (((l0.toUInt64 >>> ((1 : Int32).toInt64.toUInt64 &&& Int64.toUInt64 63)).toInt64) &&& (6148914691236517205 : Int64))) &&& (3689348814741910323 : Int64)) + ((((l0 - (((l0.toUInt64 >>> ((1 : Int32).toInt64.toUInt64 &&& Int64.toUInt64 63)).toInt64) &&& (6148914691236517205 : Int64))).toUInt64 >>> ((2 : Int32).toInt64.toUInt64 &&& Int64.toUInt64 63)).toInt64) &&& (3689348814741910323 : Int64))) + (((((l0 - (((l0.toUInt64 >>> ((1 : Int32).toInt64.toUInt64 &&& Int64.toUInt64 63)).toInt64) &&& (6148914691236517205 : Int64))) &&& (3689348814741910323 : Int64)) + ((((l0 - (((l0.toUInt64 >>> ((1 : Int32).toInt64.toUInt64 &&& Int64.toUInt64 63)).toInt64) &&& (6148914691236517205 : Int64))).toUInt64 >>> ((2 : Int32).toInt64.toUInt64 &&& Int64.toUInt64 63)).toInt64) &&& (3689348814741910323 : Int64))).toUInt64 >>> ((4 : Int32).toInt64.toUInt64 &&& Int64.toUInt64 63)).toInt64)) &&& (1085102592571150095 : Int64)) + (((((((l0 - (((l0.toUInt64 >>> ((1 : Int32).toInt64.toUInt64 &&& Int64.toUInt64 63)).toInt64) &&& (6148914691236517205 : Int64))) &&& (3689348814741910323 : Int64)) + ((((l0 - (((l0.toUInt64 >>> ((1 : Int32).toInt64.toUInt64 &&& Int64.toUInt64 63)).toInt64) &&& (6148914691236517205 : Int64))).toUInt64 >>> ((2 : Int32).toInt64.toUInt64 &&& Int64.toUInt64 63)).toInt64) &&& (3689348814741910323 : Int64))) + (((((l0 - (((l0.toUInt64 >>> ((1 : Int32).toInt64.toUInt64 &&& Int64.toUInt64 63)).toInt64) &&& (6148914691236517205 : Int64))) &&& (3689348814741910323 : Int64)) + ((((l0 - (((l0.toUInt64 >>> ((1 : Int32).toInt64.toUInt64 &&& Int64.toUInt64 63)).toInt64) &&& (6148914691236517205 : Int64))).toUInt64 >>> ((2 : Int32).toInt64.toUInt64 &&& Int64.toUInt64 63)).toInt64) &&& (3689348814741910323 : Int64))).toUInt64 >>> ((4 : Int32).toInt64.toUInt64 &&& Int64.toUInt64 63)).toInt64)) &&& (1085102592571150095 : Int64)).toUInt64 >>> ((8 : Int32).toInt64.toUInt64 &&& Int64.toUInt64 63)).toInt64)).toUInt64 >>> ((16 : Int32).toInt64.toUInt64 &&& Int64.toUInt64 63)).toInt64)))] dJ13_bitCount_95d88_47 rfl (by decide) rfl ?_
  refine z_lload_n 0 dJ13_bitCount_95d88_48 rfl rfl ?_
  refine z_lload_n 0 dJ13_bitCount_95d88_49 rfl rfl ?_
  refine z_bipush 32 32 dJ13_bitCount_95d88_50 (by decide) ?_
  refine z_lushr dJ13_bitCount_95d88_52 ?_
  refine z_ladd dJ13_bitCount_95d88_53 ?_
  refine z_lstore_n [(0, .long ((((((((l0 - (((l0.toUInt64 >>> ((1 : Int32).toInt64.toUInt64 &&& Int64.toUInt64 63)).toInt64) &&& (6148914691236517205 : Int64))) &&& (3689348814741910323 : Int64)) + ((((l0 - (((l0.toUInt64 >>> ((1 : Int32).toInt64.toUInt64 &&& Int64.toUInt64 63)).toInt64) &&& (6148914691236517205 : Int64))).toUInt64 >>> ((2 : Int32).toInt64.toUInt64 &&& Int64.toUInt64 63)).toInt64) &&& (3689348814741910323 : Int64))) + (((((l0 - (((l0.toUInt64 >>> ((1 : Int32).toInt64.toUInt64 &&& Int64.toUInt64 63)).toInt64) &&& (6148914691236517205 : Int64))) &&& (3689348814741910323 : Int64)) + ((((l0 - (((l0.toUInt64 >>> ((1 : Int32).toInt64.toUInt64 &&& Int64.toUInt64 63)).toInt64) &&& (6148914691236517205 : Int64))).toUInt64 >>> ((2 : Int32).toInt64.toUInt64 &&& Int64.toUInt64 63)).toInt64) &&& (3689348814741910323 : Int64))).toUInt64 >>> ((4 : Int32).toInt64.toUInt64 &&& Int64.toUInt64 63)).toInt64)) &&& (1085102592571150095 : Int64)) + (((((((l0 - (((l0.toUInt64 >>> ((1 : Int32).toInt64.toUInt64 &&& Int64.toUInt64 63)).toInt64) &&& (6148914691236517205 : Int64))) &&& (3689348814741910323 : Int64)) + ((((l0 - (((l0.toUInt64 >>> ((1 : Int32).toInt64.toUInt64 &&& Int64.toUInt64 63)).toInt64) &&& (6148914691236517205 : Int64))).toUInt64 >>> ((2 : Int32).toInt64.toUInt64 &&& Int64.toUInt64 63)).toInt64) &&& (3689348814741910323 : Int64))) + (((((l0 - (((l0.toUInt64 >>> ((1 : Int32).toInt64.toUInt64 &&& Int64.toUInt64 63)).toInt64) &&& (6148914691236517205 : Int64))) &&& (3689348814741910323 : Int64)) + ((((l0 - (((l0.toUInt64 >>> ((1 : Int32).toInt64.toUInt64 &&& Int64.toUInt64 63)).toInt64) &&& (6148914691236517205 : Int64))).toUInt64 >>> ((2 : Int32).toInt64.toUInt64 &&& Int64.toUInt64 63)).toInt64) &&& (3689348814741910323 : Int64))).toUInt64 >>> ((4 : Int32).toInt64.toUInt64 &&& Int64.toUInt64 63)).toInt64)) &&& (1085102592571150095 : Int64)).toUInt64 >>> ((8 : Int32).toInt64.toUInt64 &&& Int64.toUInt64 63)).toInt64)) + ((((((((l0 - (((l0.toUInt64 >>> ((1 : Int32).toInt64.toUInt64 &&& Int64.toUInt64 63)).toInt64) &&& (6148914691236517205 : Int64))) &&& (3689348814741910323 : Int64)) + ((((l0 - (((l0.toUInt64 >>> ((1 : Int32).toInt64.toUInt64 &&& Int64.toUInt64 63)).toInt64) &&& (6148914691236517205 : Int64))).toUInt64 >>> ((2 : Int32).toInt64.toUInt64 &&& Int64.toUInt64 63)).toInt64) &&& (3689348814741910323 : Int64))) + (((((l0 - (((l0.toUInt64 >>> ((1 : Int32).toInt64.toUInt64 &&& Int64.toUInt64 63)).toInt64) &&& (6148914691236517205 : Int64))) &&& (3689348814741910323 : Int64)) + ((((l0 - (((l0.toUInt64 >>> ((1 : Int32).toInt64.toUInt64 &&& Int64.toUInt64 63)).toInt64) &&& (6148914691236517205 : Int64))).toUInt64 >>> ((2 : Int32).toInt64.toUInt64 &&& Int64.toUInt64 63)).toInt64) &&& (3689348814741910323 : Int64))).toUInt64 >>> ((4 : Int32).toInt64.toUInt64 &&& Int64.toUInt64 63)).toInt64)) &&& (1085102592571150095 : Int64)) + (((((((l0 - (((l0.toUInt64 >>> ((1 : Int32).toInt64.toUInt64 &&& Int64.toUInt64 63)).toInt64) &&& (6148914691236517205 : Int64))) &&& (3689348814741910323 : Int64)) + ((((l0 - (((l0.toUInt64 >>> ((1 : Int32).toInt64.toUInt64 &&& Int64.toUInt64 63)).toInt64) &&& (6148914691236517205 : Int64))).toUInt64 >>> ((2 : Int32).toInt64.toUInt64 &&& Int64.toUInt64 63)).toInt64) &&& (3689348814741910323 : Int64))) + (((((l0 - (((l0.toUInt64 >>> ((1 : Int32).toInt64.toUInt64 &&& Int64.toUInt64 63)).toInt64) &&& (6148914691236517205 : Int64))) &&& (3689348814741910323 : Int64)) + ((((l0 - (((l0.toUInt64 >>> ((1 : Int32).toInt64.toUInt64 &&& Int64.toUInt64 63)).toInt64) &&& (6148914691236517205 : Int64))).toUInt64 >>> ((2 : Int32).toInt64.toUInt64 &&& Int64.toUInt64 63)).toInt64) &&& (3689348814741910323 : Int64))).toUInt64 >>> ((4 : Int32).toInt64.toUInt64 &&& Int64.toUInt64 63)).toInt64)) &&& (1085102592571150095 : Int64)).toUInt64 >>> ((8 : Int32).toInt64.toUInt64 &&& Int64.toUInt64 63)).toInt64)).toUInt64 >>> ((16 : Int32).toInt64.toUInt64 &&& Int64.toUInt64 63)).toInt64)) + (((((((((l0 - (((l0.toUInt64 >>> ((1 : Int32).toInt64.toUInt64 &&& Int64.toUInt64 63)).toInt64) &&& (6148914691236517205 : Int64))) &&& (3689348814741910323 : Int64)) + ((((l0 - (((l0.toUInt64 >>> ((1 : Int32).toInt64.toUInt64 &&& Int64.toUInt64 63)).toInt64) &&& (6148914691236517205 : Int64))).toUInt64 >>> ((2 : Int32).toInt64.toUInt64 &&& Int64.toUInt64 63)).toInt64) &&& (3689348814741910323 : Int64))) + (((((l0 - (((l0.toUInt64 >>> ((1 : Int32).toInt64.toUInt64 &&& Int64.toUInt64 63)).toInt64) &&& (6148914691236517205 : Int64))) &&& (3689348814741910323 : Int64)) + ((((l0 - (((l0.toUInt64 >>> ((1 : Int32).toInt64.toUInt64 &&& Int64.toUInt64 63)).toInt64) &&& (6148914691236517205 : Int64))).toUInt64 >>> ((2 : Int32).toInt64.toUInt64 &&& Int64.toUInt64 63)).toInt64) &&& (3689348814741910323 : Int64))).toUInt64 >>> ((4 : Int32).toInt64.toUInt64 &&& Int64.toUInt64 63)).toInt64)) &&& (1085102592571150095 : Int64)) + (((((((l0 - (((l0.toUInt64 >>> ((1 : Int32).toInt64.toUInt64 &&& Int64.toUInt64 63)).toInt64) &&& (6148914691236517205 : Int64))) &&& (3689348814741910323 : Int64)) + ((((l0 - (((l0.toUInt64 >>> ((1 : Int32).toInt64.toUInt64 &&& Int64.toUInt64 63)).toInt64) &&& (6148914691236517205 : Int64))).toUInt64 >>> ((2 : Int32).toInt64.toUInt64 &&& Int64.toUInt64 63)).toInt64) &&& (3689348814741910323 : Int64))) + (((((l0 - (((l0.toUInt64 >>> ((1 : Int32).toInt64.toUInt64 &&& Int64.toUInt64 63)).toInt64) &&& (6148914691236517205 : Int64))) &&& (3689348814741910323 : Int64)) + ((((l0 - (((l0.toUInt64 >>> ((1 : Int32).toInt64.toUInt64 &&& Int64.toUInt64 63)).toInt64) &&& (6148914691236517205 : Int64))).toUInt64 >>> ((2 : Int32).toInt64.toUInt64 &&& Int64.toUInt64 63)).toInt64) &&& (3689348814741910323 : Int64))).toUInt64 >>> ((4 : Int32).toInt64.toUInt64 &&& Int64.toUInt64 63)).toInt64)) &&& (1085102592571150095 : Int64)).toUInt64 >>> ((8 : Int32).toInt64.toUInt64 &&& Int64.toUInt64 63)).toInt64)) + ((((((((l0 - (((l0.toUInt64 >>> ((1 : Int32).toInt64.toUInt64 &&& Int64.toUInt64 63)).toInt64) &&& (6148914691236517205 : Int64))) &&& (3689348814741910323 : Int64)) + ((((l0 - (((l0.toUInt64 >>> ((1 : Int32).toInt64.toUInt64 &&& Int64.toUInt64 63)).toInt64) &&& (6148914691236517205 : Int64))).toUInt64 >>> ((2 : Int32).toInt64.toUInt64 &&& Int64.toUInt64 63)).toInt64) &&& (3689348814741910323 : Int64))) + (((((l0 - (((l0.toUInt64 >>> ((1 : Int32).toInt64.toUInt64 &&& Int64.toUInt64 63)).toInt64) &&& (6148914691236517205 : Int64))) &&& (3689348814741910323 : Int64)) + ((((l0 - (((l0.toUInt64 >>> ((1 : Int32).toInt64.toUInt64 &&& Int64.toUInt64 63)).toInt64) &&& (6148914691236517205 : Int64))).toUInt64 >>> ((2 : Int32).toInt64.toUInt64 &&& Int64.toUInt64 63)).toInt64) &&& (3689348814741910323 : Int64))).toUInt64 >>> ((4 : Int32).toInt64.toUInt64 &&& Int64.toUInt64 63)).toInt64)) &&& (1085102592571150095 : Int64)) + (((((((l0 - (((l0.toUInt64 >>> ((1 : Int32).toInt64.toUInt64 &&& Int64.toUInt64 63)).toInt64) &&& (6148914691236517205 : Int64))) &&& (3689348814741910323 : Int64)) + ((((l0 - (((l0.toUInt64 >>> ((1 : Int32).toInt64.toUInt64 &&& Int64.toUInt64 63)).toInt64) &&& (6148914691236517205 : Int64))).toUInt64 >>> ((2 : Int32).toInt64.toUInt64 &&& Int64.toUInt64 63)).toInt64) &&& (3689348814741910323 : Int64))) + (((((l0 - (((l0.toUInt64 >>> ((1 : Int32).toInt64.toUInt64 &&& Int64.toUInt64 63)).toInt64) &&& (6148914691236517205 : Int64))) &&& (3689348814741910323 : Int64)) + ((((l0 - (((l0.toUInt64 >>> ((1 : Int32).toInt64.toUInt64 &&& Int64.toUInt64 63)).toInt64) &&& (6148914691236517205 : Int64))).toUInt64 >>> ((2 : Int32).toInt64.toUInt64 &&& Int64.toUInt64 63)).toInt64) &&& (3689348814741910323 : Int64))).toUInt64 >>> ((4 : Int32).toInt64.toUInt64 &&& Int64.toUInt64 63)).toInt64)) &&& (1085102592571150095 : Int64)).toUInt64 >>> ((8 : Int32).toInt64.toUInt64 &&& Int64.toUInt64 63)).toInt64)).toUInt64 >>> ((16 : Int32).toInt64.toUInt64 &&& Int64.toUInt64 63)).toInt64)).toUInt64 >>> ((32 : Int32).toInt64.toUInt64 &&& Int64.toUInt64 63)).toInt64)))] dJ13_bitCount_95d88_54 rfl (by decide) rfl ?_
  refine z_lload_n 0 dJ13_bitCount_95d88_55 rfl rfl ?_
  refine z_l2i dJ13_bitCount_95d88_56 ?_
  refine z_bipush 127 127 dJ13_bitCount_95d88_57 (by decide) ?_
  refine z_iand dJ13_bitCount_95d88_59 ?_
  cases hf
  exact z_ireturn hE rfl dJ13_bitCount_95d88_60
set_option maxRecDepth 20000 in
theorem zm_J6_bitCount_0f7a4 {N : Nat} {sh : Sh} {d : Dt} {l0 : Int32} {r : Int32} (hf : f_J6_bitCount_0f7a4 N sh l0 d = some r) : ∀ (l : Launch) (G : GG), Mt l G yJ6_bitCount_0f7a4 cJ6_bitCount_0f7a4 1 (some .int) 1 [.int l0] (sh, d) (some (.int r)) (sh, d) := by
  have hf0 := hf
  unfold f_J6_bitCount_0f7a4 at hf
  refine fun l G => mt_of (Or.inr (by decide)) (Nat.le_of_ble_eq_true rfl) Le.rf (fun E hE => ?_)
  show Z E yJ6_bitCount_0f7a4 cJ6_bitCount_0f7a4 1 (some .int) 1 (sh, d) 0 [(0, .int l0)] []
  refine z_iload_n 0 dJ6_bitCount_0f7a4_0 rfl rfl ?_
  refine z_iload_n 0 dJ6_bitCount_0f7a4_1 rfl rfl ?_
  refine z_iconst 1 1 dJ6_bitCount_0f7a4_2 (by decide) ?_
  refine z_iushr dJ6_bitCount_0f7a4_3 ?_
  refine z_ldcw mw_41_16 dJ6_bitCount_0f7a4_4 ?_
  refine z_iand dJ6_bitCount_0f7a4_7 ?_
  refine z_isub dJ6_bitCount_0f7a4_8 ?_
  refine z_istore_n [(0, .int (l0 - (((l0.toUInt32 >>> ((1 : Int32).toUInt32 &&& Int32.toUInt32 31)).toInt32) &&& (1431655765 : Int32))))] dJ6_bitCount_0f7a4_9 rfl (by decide) rfl ?_
  refine z_iload_n 0 dJ6_bitCount_0f7a4_10 rfl rfl ?_
  refine z_ldcw mw_41_17 dJ6_bitCount_0f7a4_11 ?_
  refine z_iand dJ6_bitCount_0f7a4_14 ?_
  refine z_iload_n 0 dJ6_bitCount_0f7a4_15 rfl rfl ?_
  refine z_iconst 2 2 dJ6_bitCount_0f7a4_16 (by decide) ?_
  refine z_iushr dJ6_bitCount_0f7a4_17 ?_
  refine z_ldcw mw_41_17 dJ6_bitCount_0f7a4_18 ?_
  refine z_iand dJ6_bitCount_0f7a4_21 ?_
  refine z_iadd dJ6_bitCount_0f7a4_22 ?_
  refine z_istore_n [(0, .int (((l0 - (((l0.toUInt32 >>> ((1 : Int32).toUInt32 &&& Int32.toUInt32 31)).toInt32) &&& (1431655765 : Int32))) &&& (858993459 : Int32)) + ((((l0 - (((l0.toUInt32 >>> ((1 : Int32).toUInt32 &&& Int32.toUInt32 31)).toInt32) &&& (1431655765 : Int32))).toUInt32 >>> ((2 : Int32).toUInt32 &&& Int32.toUInt32 31)).toInt32) &&& (858993459 : Int32))))] dJ6_bitCount_0f7a4_23 rfl (by decide) rfl ?_
  refine z_iload_n 0 dJ6_bitCount_0f7a4_24 rfl rfl ?_
  refine z_iload_n 0 dJ6_bitCount_0f7a4_25 rfl rfl ?_
  refine z_iconst 4 4 dJ6_bitCount_0f7a4_26 (by decide) ?_
  refine z_iushr dJ6_bitCount_0f7a4_27 ?_
  refine z_iadd dJ6_bitCount_0f7a4_28 ?_
  refine z_ldcw mw_41_18 dJ6_bitCount_0f7a4_29 ?_
  refine z_iand dJ6_bitCount_0f7a4_32 ?_
  refine z_istore_n [(0, .int (((((l0 - (((l0.toUInt32 >>> ((1 : Int32).toUInt32 &&& Int32.toUInt32 31)).toInt32) &&& (1431655765 : Int32))) &&& (858993459 : Int32)) + ((((l0 - (((l0.toUInt32 >>> ((1 : Int32).toUInt32 &&& Int32.toUInt32 31)).toInt32) &&& (1431655765 : Int32))).toUInt32 >>> ((2 : Int32).toUInt32 &&& Int32.toUInt32 31)).toInt32) &&& (858993459 : Int32))) + (((((l0 - (((l0.toUInt32 >>> ((1 : Int32).toUInt32 &&& Int32.toUInt32 31)).toInt32) &&& (1431655765 : Int32))) &&& (858993459 : Int32)) + ((((l0 - (((l0.toUInt32 >>> ((1 : Int32).toUInt32 &&& Int32.toUInt32 31)).toInt32) &&& (1431655765 : Int32))).toUInt32 >>> ((2 : Int32).toUInt32 &&& Int32.toUInt32 31)).toInt32) &&& (858993459 : Int32))).toUInt32 >>> ((4 : Int32).toUInt32 &&& Int32.toUInt32 31)).toInt32)) &&& (252645135 : Int32)))] dJ6_bitCount_0f7a4_33 rfl (by decide) rfl ?_
  refine z_iload_n 0 dJ6_bitCount_0f7a4_34 rfl rfl ?_
  refine z_iload_n 0 dJ6_bitCount_0f7a4_35 rfl rfl ?_
  refine z_bipush 8 8 dJ6_bitCount_0f7a4_36 (by decide) ?_
  refine z_iushr dJ6_bitCount_0f7a4_38 ?_
  refine z_iadd dJ6_bitCount_0f7a4_39 ?_
  refine z_istore_n [(0, .int ((((((l0 - (((l0.toUInt32 >>> ((1 : Int32).toUInt32 &&& Int32.toUInt32 31)).toInt32) &&& (1431655765 : Int32))) &&& (858993459 : Int32)) + ((((l0 - (((l0.toUInt32 >>> ((1 : Int32).toUInt32 &&& Int32.toUInt32 31)).toInt32) &&& (1431655765 : Int32))).toUInt32 >>> ((2 : Int32).toUInt32 &&& Int32.toUInt32 31)).toInt32) &&& (858993459 : Int32))) + (((((l0 - (((l0.toUInt32 >>> ((1 : Int32).toUInt32 &&& Int32.toUInt32 31)).toInt32) &&& (1431655765 : Int32))) &&& (858993459 : Int32)) + ((((l0 - (((l0.toUInt32 >>> ((1 : Int32).toUInt32 &&& Int32.toUInt32 31)).toInt32) &&& (1431655765 : Int32))).toUInt32 >>> ((2 : Int32).toUInt32 &&& Int32.toUInt32 31)).toInt32) &&& (858993459 : Int32))).toUInt32 >>> ((4 : Int32).toUInt32 &&& Int32.toUInt32 31)).toInt32)) &&& (252645135 : Int32)) + (((((((l0 - (((l0.toUInt32 >>> ((1 : Int32).toUInt32 &&& Int32.toUInt32 31)).toInt32) &&& (1431655765 : Int32))) &&& (858993459 : Int32)) + ((((l0 - (((l0.toUInt32 >>> ((1 : Int32).toUInt32 &&& Int32.toUInt32 31)).toInt32) &&& (1431655765 : Int32))).toUInt32 >>> ((2 : Int32).toUInt32 &&& Int32.toUInt32 31)).toInt32) &&& (858993459 : Int32))) + (((((l0 - (((l0.toUInt32 >>> ((1 : Int32).toUInt32 &&& Int32.toUInt32 31)).toInt32) &&& (1431655765 : Int32))) &&& (858993459 : Int32)) + ((((l0 - (((l0.toUInt32 >>> ((1 : Int32).toUInt32 &&& Int32.toUInt32 31)).toInt32) &&& (1431655765 : Int32))).toUInt32 >>> ((2 : Int32).toUInt32 &&& Int32.toUInt32 31)).toInt32) &&& (858993459 : Int32))).toUInt32 >>> ((4 : Int32).toUInt32 &&& Int32.toUInt32 31)).toInt32)) &&& (252645135 : Int32)).toUInt32 >>> ((8 : Int32).toUInt32 &&& Int32.toUInt32 31)).toInt32)))] dJ6_bitCount_0f7a4_40 rfl (by decide) rfl ?_
  refine z_iload_n 0 dJ6_bitCount_0f7a4_41 rfl rfl ?_
  refine z_iload_n 0 dJ6_bitCount_0f7a4_42 rfl rfl ?_
  refine z_bipush 16 16 dJ6_bitCount_0f7a4_43 (by decide) ?_
  refine z_iushr dJ6_bitCount_0f7a4_45 ?_
  refine z_iadd dJ6_bitCount_0f7a4_46 ?_
  refine z_istore_n [(0, .int (((((((l0 - (((l0.toUInt32 >>> ((1 : Int32).toUInt32 &&& Int32.toUInt32 31)).toInt32) &&& (1431655765 : Int32))) &&& (858993459 : Int32)) + ((((l0 - (((l0.toUInt32 >>> ((1 : Int32).toUInt32 &&& Int32.toUInt32 31)).toInt32) &&& (1431655765 : Int32))).toUInt32 >>> ((2 : Int32).toUInt32 &&& Int32.toUInt32 31)).toInt32) &&& (858993459 : Int32))) + (((((l0 - (((l0.toUInt32 >>> ((1 : Int32).toUInt32 &&& Int32.toUInt32 31)).toInt32) &&& (1431655765 : Int32))) &&& (858993459 : Int32)) + ((((l0 - (((l0.toUInt32 >>> ((1 : Int32).toUInt32 &&& Int32.toUInt32 31)).toInt32) &&& (1431655765 : Int32))).toUInt32 >>> ((2 : Int32).toUInt32 &&& Int32.toUInt32 31)).toInt32) &&& (858993459 : Int32))).toUInt32 >>> ((4 : Int32).toUInt32 &&& Int32.toUInt32 31)).toInt32)) &&& (252645135 : Int32)) + (((((((l0 - (((l0.toUInt32 >>> ((1 : Int32).toUInt32 &&& Int32.toUInt32 31)).toInt32) &&& (1431655765 : Int32))) &&& (858993459 : Int32)) + ((((l0 - (((l0.toUInt32 >>> ((1 : Int32).toUInt32 &&& Int32.toUInt32 31)).toInt32) &&& (1431655765 : Int32))).toUInt32 >>> ((2 : Int32).toUInt32 &&& Int32.toUInt32 31)).toInt32) &&& (858993459 : Int32))) + (((((l0 - (((l0.toUInt32 >>> ((1 : Int32).toUInt32 &&& Int32.toUInt32 31)).toInt32) &&& (1431655765 : Int32))) &&& (858993459 : Int32)) + ((((l0 - (((l0.toUInt32 >>> ((1 : Int32).toUInt32 &&& Int32.toUInt32 31)).toInt32) &&& (1431655765 : Int32))).toUInt32 >>> ((2 : Int32).toUInt32 &&& Int32.toUInt32 31)).toInt32) &&& (858993459 : Int32))).toUInt32 >>> ((4 : Int32).toUInt32 &&& Int32.toUInt32 31)).toInt32)) &&& (252645135 : Int32)).toUInt32 >>> ((8 : Int32).toUInt32 &&& Int32.toUInt32 31)).toInt32)) + ((((((((l0 - (((l0.toUInt32 >>> ((1 : Int32).toUInt32 &&& Int32.toUInt32 31)).toInt32) &&& (1431655765 : Int32))) &&& (858993459 : Int32)) + ((((l0 - (((l0.toUInt32 >>> ((1 : Int32).toUInt32 &&& Int32.toUInt32 31)).toInt32) &&& (1431655765 : Int32))).toUInt32 >>> ((2 : Int32).toUInt32 &&& Int32.toUInt32 31)).toInt32) &&& (858993459 : Int32))) + (((((l0 - (((l0.toUInt32 >>> ((1 : Int32).toUInt32 &&& Int32.toUInt32 31)).toInt32) &&& (1431655765 : Int32))) &&& (858993459 : Int32)) + ((((l0 - (((l0.toUInt32 >>> ((1 : Int32).toUInt32 &&& Int32.toUInt32 31)).toInt32) &&& (1431655765 : Int32))).toUInt32 >>> ((2 : Int32).toUInt32 &&& Int32.toUInt32 31)).toInt32) &&& (858993459 : Int32))).toUInt32 >>> ((4 : Int32).toUInt32 &&& Int32.toUInt32 31)).toInt32)) &&& (252645135 : Int32)) + (((((((l0 - (((l0.toUInt32 >>> ((1 : Int32).toUInt32 &&& Int32.toUInt32 31)).toInt32) &&& (1431655765 : Int32))) &&& (858993459 : Int32)) + ((((l0 - (((l0.toUInt32 >>> ((1 : Int32).toUInt32 &&& Int32.toUInt32 31)).toInt32) &&& (1431655765 : Int32))).toUInt32 >>> ((2 : Int32).toUInt32 &&& Int32.toUInt32 31)).toInt32) &&& (858993459 : Int32))) + (((((l0 - (((l0.toUInt32 >>> ((1 : Int32).toUInt32 &&& Int32.toUInt32 31)).toInt32) &&& (1431655765 : Int32))) &&& (858993459 : Int32)) + ((((l0 - (((l0.toUInt32 >>> ((1 : Int32).toUInt32 &&& Int32.toUInt32 31)).toInt32) &&& (1431655765 : Int32))).toUInt32 >>> ((2 : Int32).toUInt32 &&& Int32.toUInt32 31)).toInt32) &&& (858993459 : Int32))).toUInt32 >>> ((4 : Int32).toUInt32 &&& Int32.toUInt32 31)).toInt32)) &&& (252645135 : Int32)).toUInt32 >>> ((8 : Int32).toUInt32 &&& Int32.toUInt32 31)).toInt32)).toUInt32 >>> ((16 : Int32).toUInt32 &&& Int32.toUInt32 31)).toInt32)))] dJ6_bitCount_0f7a4_47 rfl (by decide) rfl ?_
  refine z_iload_n 0 dJ6_bitCount_0f7a4_48 rfl rfl ?_
  refine z_bipush 63 63 dJ6_bitCount_0f7a4_49 (by decide) ?_
  refine z_iand dJ6_bitCount_0f7a4_51 ?_
  cases hf
  exact z_ireturn hE rfl dJ6_bitCount_0f7a4_52
set_option maxRecDepth 20000 in
theorem le_J7_copyOf_59c91_17 {N : Nat} {r : Nat × AS}  {l0 : Nat} {l1 : Int32} {t0 : Nat} {s : AS} (hf : f_J7_copyOf_59c91_17 N l0 l1 t0 s = some r) : Le s r.2 := by
  unfold f_J7_copyOf_59c91_17 at hf
  obtain ⟨v3, -, hf⟩ := ob hf
  obtain ⟨d4, -, hf⟩ := ob hf
  cases hf
  exact Le.rf
set_option maxRecDepth 20000 in
theorem zb_J7_copyOf_59c91_17 {N : Nat} {r : Nat × AS} {E : EV} (hE : TG E (some (.ref r.1)) r.2)   {l0 : Nat} {l1 : Int32} {t0 : Nat} {s : AS} (hf : f_J7_copyOf_59c91_17 N l0 l1 t0 s = some r) : Z E yJ7_copyOf_59c91 cJ7_copyOf_59c91 3 (some (.array .int)) 1 s 17 [(0, .ref l0), (1, .int l1)] [.ref t0] := by
  unfold f_J7_copyOf_59c91_17 at hf
  refine z_astore_n [(2, .ref t0), (0, .ref l0), (1, .int l1)] dJ7_copyOf_59c91_17 rfl (by decide) rfl ?_
  refine z_aload_n 1 dJ7_copyOf_59c91_18 rfl rfl ?_
  refine z_iconst 0 0 dJ7_copyOf_59c91_19 (by decide) ?_
  refine z_aload_n 0 dJ7_copyOf_59c91_20 rfl rfl ?_
  refine z_iconst 0 0 dJ7_copyOf_59c91_21 (by decide) ?_
  refine z_aload_n 1 dJ7_copyOf_59c91_22 rfl rfl ?_
  refine z_aLen hf dJ7_copyOf_59c91_23  (fun v3 hf => ?_)
  refine z_iload_n 2 dJ7_copyOf_59c91_24 rfl rfl ?_
  refine z_min mw_9_19 mw_9_20 mw_8_22 mw_9_21 (by decide) (Nat.le_of_ble_eq_true rfl) dJ7_copyOf_59c91_25 ?_
  refine z_cpy hf mw_9_22 mw_8_16 mw_8_17 mw_8_18 (by decide) (Nat.le_of_ble_eq_true rfl) dJ7_copyOf_59c91_28 (fun d4 hf => ?_)
  refine z_aload_n 0 dJ7_copyOf_59c91_31 rfl rfl ?_
  cases hf
  exact z_areturn hE rfl (by first | exact Or.inl ⟨_, rfl⟩ | exact Or.inr ⟨_, rfl⟩) dJ7_copyOf_59c91_32
set_option maxRecDepth 20000 in
theorem lm_J7_copyOf_59c91 {N : Nat} {s : AS} {l0 : Nat} {l1 : Int32} {r : Nat × AS} (hf : f_J7_copyOf_59c91 N l0 l1 s = some r) : Le s r.2 := by
  unfold f_J7_copyOf_59c91 at hf
  obtain ⟨v1, -, hf⟩ := ob hf
  refine ite_c hf (fun hf => ?_) (fun hf => ?_)
  · obtain ⟨s2, es2, hf⟩ := ob hf
    refine Le.of (t := (s.1, s.2)) rfl ((le_nArr es2).tr ?_)
    exact Le.via (le_J7_copyOf_59c91_17 hf) rfl
  · cases hf
set_option maxRecDepth 20000 in
theorem zm_J7_copyOf_59c91 {N : Nat} {s : AS} {l0 : Nat} {l1 : Int32} {r : Nat × AS} (hf : f_J7_copyOf_59c91 N l0 l1 s = some r) : ∀ (l : Launch) (G : GG), Mt l G yJ7_copyOf_59c91 cJ7_copyOf_59c91 3 (some (.array .int)) 1 [.ref l0, .int l1] s (some (.ref r.1)) r.2 := by
  have hf0 := hf
  unfold f_J7_copyOf_59c91 at hf
  refine fun l G => mt_of (Or.inr (by decide)) (Nat.le_of_ble_eq_true rfl) (lm_J7_copyOf_59c91 hf0) (fun E hE => ?_)
  show Z E yJ7_copyOf_59c91 cJ7_copyOf_59c91 3 (some (.array .int)) 1 s 0 [(0, .ref l0), (1, .int l1)] []
  refine z_iload_n 1 dJ7_copyOf_59c91_0 rfl rfl ?_
  refine z_aload_n 0 dJ7_copyOf_59c91_1 rfl rfl ?_
  refine z_aLen hf dJ7_copyOf_59c91_2  (fun v1 hf => ?_)
  refine z_icmp_ne 14 hf dJ7_copyOf_59c91_3 (by decide) (fun hf => ?_) (fun hf => ?_)
  · refine z_iload_n 1 dJ7_copyOf_59c91_14 rfl rfl ?_
    refine z_na0 hf (fun _ hf => tg_le hE (le_J7_copyOf_59c91_17 hf)) mw_2_13 dJ7_copyOf_59c91_15 (fun s2 hf => ?_)
    exact zb_J7_copyOf_59c91_17 hE hf
  · refine z_aload_n 0 dJ7_copyOf_59c91_6 rfl rfl ?_
    cases hf
set_option maxRecDepth 20000 in
theorem le_J7_copyOf_c38d5_17 {N : Nat} {r : Nat × AS}  {l0 : Nat} {l1 : Int32} {t0 : Nat} {s : AS} (hf : f_J7_copyOf_c38d5_17 N l0 l1 t0 s = some r) : Le s r.2 := by
  unfold f_J7_copyOf_c38d5_17 at hf
  obtain ⟨v3, -, hf⟩ := ob hf
  obtain ⟨d4, -, hf⟩ := ob hf
  cases hf
  exact Le.rf
set_option maxRecDepth 20000 in
theorem zb_J7_copyOf_c38d5_17 {N : Nat} {r : Nat × AS} {E : EV} (hE : TG E (some (.ref r.1)) r.2)   {l0 : Nat} {l1 : Int32} {t0 : Nat} {s : AS} (hf : f_J7_copyOf_c38d5_17 N l0 l1 t0 s = some r) : Z E yJ7_copyOf_c38d5 cJ7_copyOf_c38d5 3 (some (.array .long)) 1 s 17 [(0, .ref l0), (1, .int l1)] [.ref t0] := by
  unfold f_J7_copyOf_c38d5_17 at hf
  refine z_astore_n [(2, .ref t0), (0, .ref l0), (1, .int l1)] dJ7_copyOf_c38d5_17 rfl (by decide) rfl ?_
  refine z_aload_n 1 dJ7_copyOf_c38d5_18 rfl rfl ?_
  refine z_iconst 0 0 dJ7_copyOf_c38d5_19 (by decide) ?_
  refine z_aload_n 0 dJ7_copyOf_c38d5_20 rfl rfl ?_
  refine z_iconst 0 0 dJ7_copyOf_c38d5_21 (by decide) ?_
  refine z_aload_n 1 dJ7_copyOf_c38d5_22 rfl rfl ?_
  refine z_aLen hf dJ7_copyOf_c38d5_23  (fun v3 hf => ?_)
  refine z_iload_n 2 dJ7_copyOf_c38d5_24 rfl rfl ?_
  refine z_min mw_9_19 mw_9_20 mw_8_22 mw_9_21 (by decide) (Nat.le_of_ble_eq_true rfl) dJ7_copyOf_c38d5_25 ?_
  refine z_cpy hf mw_9_22 mw_8_16 mw_8_17 mw_8_18 (by decide) (Nat.le_of_ble_eq_true rfl) dJ7_copyOf_c38d5_28 (fun d4 hf => ?_)
  refine z_aload_n 0 dJ7_copyOf_c38d5_31 rfl rfl ?_
  cases hf
  exact z_areturn hE rfl (by first | exact Or.inl ⟨_, rfl⟩ | exact Or.inr ⟨_, rfl⟩) dJ7_copyOf_c38d5_32
set_option maxRecDepth 20000 in
theorem lm_J7_copyOf_c38d5 {N : Nat} {s : AS} {l0 : Nat} {l1 : Int32} {r : Nat × AS} (hf : f_J7_copyOf_c38d5 N l0 l1 s = some r) : Le s r.2 := by
  unfold f_J7_copyOf_c38d5 at hf
  obtain ⟨v1, -, hf⟩ := ob hf
  refine ite_c hf (fun hf => ?_) (fun hf => ?_)
  · obtain ⟨s2, es2, hf⟩ := ob hf
    refine Le.of (t := (s.1, s.2)) rfl ((le_nArr es2).tr ?_)
    exact Le.via (le_J7_copyOf_c38d5_17 hf) rfl
  · cases hf
set_option maxRecDepth 20000 in
theorem zm_J7_copyOf_c38d5 {N : Nat} {s : AS} {l0 : Nat} {l1 : Int32} {r : Nat × AS} (hf : f_J7_copyOf_c38d5 N l0 l1 s = some r) : ∀ (l : Launch) (G : GG), Mt l G yJ7_copyOf_c38d5 cJ7_copyOf_c38d5 3 (some (.array .long)) 1 [.ref l0, .int l1] s (some (.ref r.1)) r.2 := by
  have hf0 := hf
  unfold f_J7_copyOf_c38d5 at hf
  refine fun l G => mt_of (Or.inr (by decide)) (Nat.le_of_ble_eq_true rfl) (lm_J7_copyOf_c38d5 hf0) (fun E hE => ?_)
  show Z E yJ7_copyOf_c38d5 cJ7_copyOf_c38d5 3 (some (.array .long)) 1 s 0 [(0, .ref l0), (1, .int l1)] []
  refine z_iload_n 1 dJ7_copyOf_c38d5_0 rfl rfl ?_
  refine z_aload_n 0 dJ7_copyOf_c38d5_1 rfl rfl ?_
  refine z_aLen hf dJ7_copyOf_c38d5_2  (fun v1 hf => ?_)
  refine z_icmp_ne 14 hf dJ7_copyOf_c38d5_3 (by decide) (fun hf => ?_) (fun hf => ?_)
  · refine z_iload_n 1 dJ7_copyOf_c38d5_14 rfl rfl ?_
    refine z_na1 hf (fun _ hf => tg_le hE (le_J7_copyOf_c38d5_17 hf)) mw_3_20 dJ7_copyOf_c38d5_15 (fun s2 hf => ?_)
    exact zb_J7_copyOf_c38d5_17 hE hf
  · refine z_aload_n 0 dJ7_copyOf_c38d5_6 rfl rfl ?_
    cases hf
set_option maxRecDepth 20000 in
theorem zb_J7_fill_53178_20 {N : Nat} {sh : Sh} {r : Dt} {E : EV} (hE : TG E none (sh, r))   {d : Dt} (hf : f_J7_fill_53178_20 N sh  d = some r) : Z E yJ7_fill_53178 cJ7_fill_53178 4 none 1 (sh, d) 20 [] [] := by
  unfold f_J7_fill_53178_20 at hf
  cases hf
  exact z_return hE rfl dJ7_fill_53178_20
set_option maxRecDepth 20000 in
theorem zg_J7_fill_53178_5 {N : Nat} {sh : Sh} {r : Dt} {k5 : Nat → Int32 → Int32 → Int32 → Dt → Option Dt} {E : EV} (hE : TG E none (sh, r))  (hk5 : ∀ (l0 : Nat) (l1 : Int32) (l2 : Int32) (l3 : Int32) (d : Dt), k5 l0 l1 l2 l3 d = some r → Z E yJ7_fill_53178 cJ7_fill_53178 4 none 1 (sh, d) 5 [(0, .ref l0), (1, .int l1), (2, .int l2), (3, .int l3)] []) {l0 : Nat} {l1 : Int32} {l2 : Int32} {l3 : Int32} {d : Dt} (hf : g_J7_fill_53178_5 N sh k5 l0 l1 l2 l3 d = some r) : Z E yJ7_fill_53178 cJ7_fill_53178 4 none 1 (sh, d) 5 [(0, .ref l0), (1, .int l1), (2, .int l2), (3, .int l3)] [] := by
  unfold g_J7_fill_53178_5 at hf
  refine z_iload_n 2 dJ7_fill_53178_5 rfl rfl ?_
  refine z_iload_n 3 dJ7_fill_53178_6 rfl rfl ?_
  refine z_icmp_ge 20 hf dJ7_fill_53178_7 (by decide) (fun hf => ?_) (fun hf => ?_)
  · refine z_lv [] [] rfl ?_
    exact zb_J7_fill_53178_20 hE hf
  · refine z_aload_n 0 dJ7_fill_53178_10 rfl rfl ?_
    refine z_iload_n 2 dJ7_fill_53178_11 rfl rfl ?_
    refine z_iload_n 1 dJ7_fill_53178_12 rfl rfl ?_
    refine z_sI hf dJ7_fill_53178_13  (fun d2 hf => ?_)
    refine z_iinc [(2, .int (l2 + 1)), (0, .ref l0), (1, .int l1), (3, .int l3)] 2 (l2 + 1) dJ7_fill_53178_14 rfl rfl (by decide) rfl ?_
    refine z_goto 5 dJ7_fill_53178_17 (by decide) ?_
    refine z_lv [(0, .ref l0), (1, .int l1), (2, .int (l2 + 1)), (3, .int l3)] [1, 2, 0, 3] rfl ?_
    exact hk5 _ _ _ _ _ hf
set_option maxRecDepth 20000 in
theorem zb_J7_fill_53178_5 {N : Nat} {sh : Sh} {r : Dt} {E : EV} (hE : TG E none (sh, r))  : ∀ (n : Nat) (l0 : Nat) (l1 : Int32) (l2 : Int32) (l3 : Int32) (d : Dt), f_J7_fill_53178_5 N sh n l0 l1 l2 l3 d = some r → Z E yJ7_fill_53178 cJ7_fill_53178 4 none 1 (sh, d) 5 [(0, .ref l0), (1, .int l1), (2, .int l2), (3, .int l3)] [] := by
  intro n
  induction n with
  | zero => intro l0 l1 l2 l3 d hf; cases hf
  | succ n ih => intro l0 l1 l2 l3 d hf; exact zg_J7_fill_53178_5 hE ih hf
set_option maxRecDepth 20000 in
theorem zm_J7_fill_53178 {N : Nat} {sh : Sh} {d : Dt} {l0 : Nat} {l1 : Int32} {r : Dt} (hf : f_J7_fill_53178 N sh l0 l1 d = some r) : ∀ (l : Launch) (G : GG), Mt l G yJ7_fill_53178 cJ7_fill_53178 4 none 1 [.ref l0, .int l1] (sh, d) none (sh, r) := by
  have hf0 := hf
  unfold f_J7_fill_53178 at hf
  refine fun l G => mt_of (Or.inr (by decide)) (Nat.le_of_ble_eq_true rfl) Le.rf (fun E hE => ?_)
  show Z E yJ7_fill_53178 cJ7_fill_53178 4 none 1 (sh, d) 0 [(0, .ref l0), (1, .int l1)] []
  refine z_iconst 0 0 dJ7_fill_53178_0 (by decide) ?_
  refine z_istore_n [(2, .int (0 : Int32)), (0, .ref l0), (1, .int l1)] dJ7_fill_53178_1 rfl (by decide) rfl ?_
  refine z_aload_n 1 dJ7_fill_53178_2 rfl rfl ?_
  refine z_aLen hf dJ7_fill_53178_3  (fun v1 hf => ?_)
  refine z_istore_n [(3, .int v1), (2, .int (0 : Int32)), (0, .ref l0), (1, .int l1)] dJ7_fill_53178_4 rfl (by decide) rfl ?_
  refine z_lv [(0, .ref l0), (1, .int l1), (2, .int (0 : Int32)), (3, .int v1)] [2, 3, 1, 0] rfl ?_
  exact zb_J7_fill_53178_5 hE N _ _ _ _ _ hf
set_option maxRecDepth 20000 in
theorem zb_J7_fill_d0a16_22 {N : Nat} {sh : Sh} {r : Dt} {E : EV} (hE : TG E none (sh, r))   {d : Dt} (hf : f_J7_fill_d0a16_22 N sh  d = some r) : Z E yJ7_fill_d0a16 cJ7_fill_d0a16 5 none 1 (sh, d) 22 [] [] := by
  unfold f_J7_fill_d0a16_22 at hf
  cases hf
  exact z_return hE rfl dJ7_fill_d0a16_22
set_option maxRecDepth 20000 in
theorem zg_J7_fill_d0a16_6 {N : Nat} {sh : Sh} {r : Dt} {k6 : Nat → Int64 → Int32 → Int32 → Dt → Option Dt} {E : EV} (hE : TG E none (sh, r))  (hk6 : ∀ (l0 : Nat) (l1 : Int64) (l3 : Int32) (l4 : Int32) (d : Dt), k6 l0 l1 l3 l4 d = some r → Z E yJ7_fill_d0a16 cJ7_fill_d0a16 5 none 1 (sh, d) 6 [(0, .ref l0), (1, .long l1), (3, .int l3), (4, .int l4)] []) {l0 : Nat} {l1 : Int64} {l3 : Int32} {l4 : Int32} {d : Dt} (hf : g_J7_fill_d0a16_6 N sh k6 l0 l1 l3 l4 d = some r) : Z E yJ7_fill_d0a16 cJ7_fill_d0a16 5 none 1 (sh, d) 6 [(0, .ref l0), (1, .long l1), (3, .int l3), (4, .int l4)] [] := by
  unfold g_J7_fill_d0a16_6 at hf
  refine z_iload_n 2 dJ7_fill_d0a16_6 rfl rfl ?_
  refine z_iload 3 dJ7_fill_d0a16_7 rfl ?_
  refine z_icmp_ge 22 hf dJ7_fill_d0a16_9 (by decide) (fun hf => ?_) (fun hf => ?_)
  · refine z_lv [] [] rfl ?_
    exact zb_J7_fill_d0a16_22 hE hf
  · refine z_aload_n 0 dJ7_fill_d0a16_12 rfl rfl ?_
    refine z_iload_n 2 dJ7_fill_d0a16_13 rfl rfl ?_
    refine z_lload_n 1 dJ7_fill_d0a16_14 rfl rfl ?_
    refine z_sJ hf dJ7_fill_d0a16_15  (fun d2 hf => ?_)
    refine z_iinc [(3, .int (l3 + 1)), (0, .ref l0), (1, .long l1), (4, .int l4)] 2 (l3 + 1) dJ7_fill_d0a16_16 rfl rfl (by decide) rfl ?_
    refine z_goto 6 dJ7_fill_d0a16_19 (by decide) ?_
    refine z_lv [(0, .ref l0), (1, .long l1), (3, .int (l3 + 1)), (4, .int l4)] [1, 2, 0, 3] rfl ?_
    exact hk6 _ _ _ _ _ hf
set_option maxRecDepth 20000 in
theorem zb_J7_fill_d0a16_6 {N : Nat} {sh : Sh} {r : Dt} {E : EV} (hE : TG E none (sh, r))  : ∀ (n : Nat) (l0 : Nat) (l1 : Int64) (l3 : Int32) (l4 : Int32) (d : Dt), f_J7_fill_d0a16_6 N sh n l0 l1 l3 l4 d = some r → Z E yJ7_fill_d0a16 cJ7_fill_d0a16 5 none 1 (sh, d) 6 [(0, .ref l0), (1, .long l1), (3, .int l3), (4, .int l4)] [] := by
  intro n
  induction n with
  | zero => intro l0 l1 l3 l4 d hf; cases hf
  | succ n ih => intro l0 l1 l3 l4 d hf; exact zg_J7_fill_d0a16_6 hE ih hf
set_option maxRecDepth 20000 in
theorem zm_J7_fill_d0a16 {N : Nat} {sh : Sh} {d : Dt} {l0 : Nat} {l1 : Int64} {r : Dt} (hf : f_J7_fill_d0a16 N sh l0 l1 d = some r) : ∀ (l : Launch) (G : GG), Mt l G yJ7_fill_d0a16 cJ7_fill_d0a16 5 none 1 [.ref l0, .long l1] (sh, d) none (sh, r) := by
  have hf0 := hf
  unfold f_J7_fill_d0a16 at hf
  refine fun l G => mt_of (Or.inr (by decide)) (Nat.le_of_ble_eq_true rfl) Le.rf (fun E hE => ?_)
  show Z E yJ7_fill_d0a16 cJ7_fill_d0a16 5 none 1 (sh, d) 0 [(0, .ref l0), (1, .long l1)] []
  refine z_iconst 0 0 dJ7_fill_d0a16_0 (by decide) ?_
  refine z_istore_n [(3, .int (0 : Int32)), (0, .ref l0), (1, .long l1)] dJ7_fill_d0a16_1 rfl (by decide) rfl ?_
  refine z_aload_n 1 dJ7_fill_d0a16_2 rfl rfl ?_
  refine z_aLen hf dJ7_fill_d0a16_3  (fun v1 hf => ?_)
  refine z_istore [(4, .int v1), (3, .int (0 : Int32)), (0, .ref l0), (1, .long l1)] dJ7_fill_d0a16_4 (by decide) rfl ?_
  refine z_lv [(0, .ref l0), (1, .long l1), (3, .int (0 : Int32)), (4, .int v1)] [2, 3, 1, 0] rfl ?_
  exact zb_J7_fill_d0a16_6 hE N _ _ _ _ _ hf
set_option maxRecDepth 20000 in
theorem le_X6_init_9 {N : Nat} {r : AS}  {l0 : Nat} {l2 : Int32} {l3 : Int32} {s : AS} (hf : f_X6_init_9 N l0 l2 l3 s = some r) : Le s r := by
  unfold f_X6_init_9 at hf
  obtain ⟨d2, -, hf⟩ := ob hf
  obtain ⟨d3, -, hf⟩ := ob hf
  cases hf
  exact Le.rf
set_option maxRecDepth 20000 in
theorem zb_X6_init_9 {N : Nat} {r : AS} {E : EV} (hE : TG E none r)   {l0 : Nat} {l2 : Int32} {l3 : Int32} {s : AS} (hf : f_X6_init_9 N l0 l2 l3 s = some r) : Z E yX6_init cX6_init 4 none 1 s 9 [(0, .ref l0), (2, .int l2), (3, .int l3)] [] := by
  unfold f_X6_init_9 at hf
  refine z_aload_n 0 dX6_init_9 rfl rfl ?_
  refine z_iload_n 1 dX6_init_10 rfl rfl ?_
  refine z_pI6_1 hf mw_6_13 dX6_init_11  (fun d2 hf => ?_)
  refine z_aload_n 0 dX6_init_14 rfl rfl ?_
  refine z_iload_n 2 dX6_init_15 rfl rfl ?_
  refine z_pI6_2 hf mw_6_14 dX6_init_16  (fun d3 hf => ?_)
  cases hf
  exact z_return hE rfl dX6_init_19
set_option maxRecDepth 20000 in
theorem lm_X6_init {N : Nat} {s : AS} {l0 : Nat} {l1 : Nat} {l2 : Int32} {l3 : Int32} {r : AS} (hf : f_X6_init N l0 l1 l2 l3 s = some r) : Le s r := by
  unfold f_X6_init at hf
  refine ite_c hf (fun hf => ?_) (fun hf => ?_)
  · skip
    obtain ⟨s1, es1, hf⟩ := ob hf
    refine Le.of (t := (s.1, s.2)) rfl ((le_pP es1).tr ?_)
    exact Le.via (le_X6_init_9 hf) rfl
  · cases hf
set_option maxRecDepth 20000 in
theorem zm_X6_init {N : Nat} {s : AS} {l0 : Nat} {l1 : Nat} {l2 : Int32} {l3 : Int32} {r : AS} (hf : f_X6_init N l0 l1 l2 l3 s = some r) : isO s.1 l0 6 ∧ ∀ (l : Launch) (G : GG), Mt l G yX6_init cX6_init 4 none 1 [.ref l0, .ref l1, .int l2, .int l3] s none r := by
  have hf0 := hf
  unfold f_X6_init at hf
  refine ite_d hf (fun hO hf => ?_) (fun _ hf => ?_)
  · refine ⟨hO, fun l G => mt_of (Or.inl (by decide)) (Nat.le_of_ble_eq_true rfl) (lm_X6_init hf0) (fun E hE => ?_)⟩
    show Z E yX6_init cX6_init 4 none 1 s 0 [(0, .ref l0), (1, .ref l1), (2, .int l2), (3, .int l3)] []
    refine z_aload_n 0 dX6_init_0 rfl rfl ?_
    refine z_objInit mw_6_11 mw_1_10 mw_1_11 (by decide) (Nat.le_of_ble_eq_true rfl) dX6_init_1 ?_
    refine z_aload_n 0 dX6_init_4 rfl rfl ?_
    refine z_aload_n 1 dX6_init_5 rfl rfl ?_
    refine z_pP6_0 hf mw_6_12 dX6_init_6 (fun s1 es1 hf => ?_)
    refine z_lv [(0, .ref l0), (2, .int l2), (3, .int l3)] [0, 2, 3] rfl ?_
    exact zb_X6_init_9 hE hf
  · cases hf
set_option maxRecDepth 20000 in
theorem le_X0_init_7 {N : Nat} {r : AS}   {s : AS} (hf : f_X0_init_7 N  s = some r) : Le s r := by
  unfold f_X0_init_7 at hf
  cases hf
  exact Le.rf
set_option maxRecDepth 20000 in
theorem zb_X0_init_7 {N : Nat} {r : AS} {E : EV} (hE : TG E none r)    {s : AS} (hf : f_X0_init_7 N  s = some r) : Z E yX0_init cX0_init 4 none 2 s 7 [] [] := by
  unfold f_X0_init_7 at hf
  cases hf
  exact z_return hE rfl dX0_init_7
set_option maxRecDepth 20000 in
theorem lm_X0_init {N : Nat} {s : AS} {l0 : Nat} {l1 : Nat} {l2 : Int32} {l3 : Int32} {r : AS} (hf : f_X0_init N l0 l1 l2 l3 s = some r) : Le s r := by
  unfold f_X0_init at hf
  refine ite_c hf (fun hf => ?_) (fun hf => ?_)
  · skip
    obtain ⟨v1, ev1, hf⟩ := ob hf
    refine Le.of (t := (s.1, s.2)) rfl ((lm_X6_init ev1).tr ?_)
    exact Le.via (le_X0_init_7 hf) rfl
  · cases hf
set_option maxRecDepth 20000 in
theorem zm_X0_init {N : Nat} {s : AS} {l0 : Nat} {l1 : Nat} {l2 : Int32} {l3 : Int32} {r : AS} (hf : f_X0_init N l0 l1 l2 l3 s = some r) : isO s.1 l0 0 ∧ ∀ (l : Launch) (G : GG), Mt l G yX0_init cX0_init 4 none 2 [.ref l0, .ref l1, .int l2, .int l3] s none r := by
  have hf0 := hf
  unfold f_X0_init at hf
  refine ite_d hf (fun hO hf => ?_) (fun _ hf => ?_)
  · refine ⟨hO, fun l G => mt_of (Or.inl (by decide)) (Nat.le_of_ble_eq_true rfl) (lm_X0_init hf0) (fun E hE => ?_)⟩
    show Z E yX0_init cX0_init 4 none 2 s 0 [(0, .ref l0), (1, .ref l1), (2, .int l2), (3, .int l3)] []
    refine z_aload_n 0 dX0_init_0 rfl rfl ?_
    refine z_aload_n 1 dX0_init_1 rfl rfl ?_
    refine z_iload_n 2 dX0_init_2 rfl rfl ?_
    refine z_iload_n 3 dX0_init_3 rfl rfl ?_
    obtain ⟨v1, ev1, hf⟩ := ob hf
    refine z_cI (As := [.ref l1, .int l2, .int l3]) (rest := []) (zm_X6_init ev1).2 (Or.inr (tg_le hE (le_X0_init_7 hf))) mw_30_9 mw_6_9 mw_2_22 mw_6_10 rfl yk_X6_init (by decide) (by decide) rfl (Nat.le_of_ble_eq_true rfl) rfl dX0_init_4 ?_
    refine z_lv [] [] rfl ?_
    exact zb_X0_init_7 hE hf
  · cases hf
set_option maxRecDepth 20000 in
theorem zb_X10_areJoined_59 {N : Nat} {sh : Sh} {d : Dt} {r : Int32} {E : EV} (hE : TG E (some (.int r)) (sh, d))  {t0 : Int32} (hf : f_X10_areJoined_59 N sh t0 d = some r) : Z E yX10_areJoined cX10_areJoined 4 (some .boolean) 1 (sh, d) 59 [] [.int t0] := by
  unfold f_X10_areJoined_59 at hf
  obtain ⟨v7, ev7, hg⟩ := ob hf
  obtain ⟨rfl, hbv7⟩ := o_bool_spec ev7
  cases hg
  exact z_zreturn hE rfl hbv7 dX10_areJoined_59
set_option maxRecDepth 20000 in
theorem zb_X10_areJoined_58 {N : Nat} {sh : Sh} {d : Dt} {r : Int32} {E : EV} (hE : TG E (some (.int r)) (sh, d))   (hf : f_X10_areJoined_58 N sh  d = some r) : Z E yX10_areJoined cX10_areJoined 4 (some .boolean) 1 (sh, d) 58 [] [] := by
  unfold f_X10_areJoined_58 at hf
  refine z_iconst 0 0 dX10_areJoined_58 (by decide) ?_
  exact zb_X10_areJoined_59 hE hf
set_option maxRecDepth 20000 in
theorem zb_X10_areJoined_54 {N : Nat} {sh : Sh} {d : Dt} {r : Int32} {E : EV} (hE : TG E (some (.int r)) (sh, d))   (hf : f_X10_areJoined_54 N sh  d = some r) : Z E yX10_areJoined cX10_areJoined 4 (some .boolean) 1 (sh, d) 54 [] [] := by
  unfold f_X10_areJoined_54 at hf
  refine z_iconst 1 1 dX10_areJoined_54 (by decide) ?_
  refine z_goto 59 dX10_areJoined_55 (by decide) ?_
  exact zb_X10_areJoined_59 hE hf
set_option maxRecDepth 20000 in
theorem zb_X10_areJoined_25 {N : Nat} {sh : Sh} {d : Dt} {r : Int32} {E : EV} (hE : TG E (some (.int r)) (sh, d))  {l0 : Nat} {l1 : Int32} {l2 : Int32} {t0 : Int32} (hf : f_X10_areJoined_25 N sh l0 l1 l2 t0 d = some r) : Z E yX10_areJoined cX10_areJoined 4 (some .boolean) 1 (sh, d) 25 [(0, .ref l0), (1, .int l1), (2, .int l2)] [.int t0] := by
  unfold f_X10_areJoined_25 at hf
  refine z_istore_n [(3, .int t0), (0, .ref l0), (1, .int l1), (2, .int l2)] dX10_areJoined_25 rfl (by decide) rfl ?_
  refine z_iload_n 0 dX10_areJoined_26 rfl rfl ?_
  refine z_if_eq 58 hf dX10_areJoined_27 (by decide) (fun hf => ?_) (fun hf => ?_)
  · refine z_lv [] [] rfl ?_
    exact zb_X10_areJoined_58 hE hf
  · refine z_aload_n 1 dX10_areJoined_30 rfl rfl ?_
    refine z_gP (ci := 10) (k := 1) (C := RX10) (T := TX10) (N := 6) rfl inlX10 (by decide) mw_4_14 (fun _ _ _ _ h9 => h9) hf (by decide) rfl dX10_areJoined_31  (fun v1 hf => ?_)
    refine z_iload_n 2 dX10_areJoined_34 rfl rfl ?_
    refine z_aR hf dX10_areJoined_35  (fun v2 hf => ?_)
    refine z_iload_n 3 dX10_areJoined_36 rfl rfl ?_
    refine z_aI hf dX10_areJoined_37  (fun v3 hf => ?_)
    refine z_iconst (-1) (-1) dX10_areJoined_38 (by decide) ?_
    refine z_icmp_ne 54 hf dX10_areJoined_39 (by decide) (fun hf => ?_) (fun hf => ?_)
    · refine z_lv [] [] rfl ?_
      exact zb_X10_areJoined_54 hE hf
    · refine z_aload_n 1 dX10_areJoined_42 rfl rfl ?_
      refine z_gP (ci := 10) (k := 1) (C := RX10) (T := TX10) (N := 6) rfl inlX10 (by decide) mw_4_14 (fun _ _ _ _ h9 => h9) hf (by decide) rfl dX10_areJoined_43  (fun v4 hf => ?_)
      refine z_iload_n 3 dX10_areJoined_46 rfl rfl ?_
      refine z_aR hf dX10_areJoined_47  (fun v5 hf => ?_)
      refine z_iload_n 2 dX10_areJoined_48 rfl rfl ?_
      refine z_aI hf dX10_areJoined_49  (fun v6 hf => ?_)
      refine z_iconst (-1) (-1) dX10_areJoined_50 (by decide) ?_
      refine z_icmp_eq 58 hf dX10_areJoined_51 (by decide) (fun hf => ?_) (fun hf => ?_)
      · refine z_lv [] [] rfl ?_
        exact zb_X10_areJoined_58 hE hf
      · refine z_lv [] [] rfl ?_
        exact zb_X10_areJoined_54 hE hf
set_option maxRecDepth 20000 in
theorem zb_X10_areJoined_24 {N : Nat} {sh : Sh} {d : Dt} {r : Int32} {E : EV} (hE : TG E (some (.int r)) (sh, d))  {l0 : Nat} {l1 : Int32} {l2 : Int32} (hf : f_X10_areJoined_24 N sh l0 l1 l2 d = some r) : Z E yX10_areJoined cX10_areJoined 4 (some .boolean) 1 (sh, d) 24 [(0, .ref l0), (1, .int l1), (2, .int l2)] [] := by
  unfold f_X10_areJoined_24 at hf
  refine z_iconst 0 0 dX10_areJoined_24 (by decide) ?_
  exact zb_X10_areJoined_25 hE hf
set_option maxRecDepth 20000 in
theorem zm_X10_areJoined {N : Nat} {sh : Sh} {d : Dt} {l0 : Nat} {l1 : Int32} {l2 : Int32} {r : Int32} (hf : f_X10_areJoined N sh l0 l1 l2 d = some r) : isO sh l0 10 ∧ ∀ (l : Launch) (G : GG), Mt l G yX10_areJoined cX10_areJoined 4 (some .boolean) 1 [.ref l0, .int l1, .int l2] (sh, d) (some (.int r)) (sh, d) := by
  have hf0 := hf
  unfold f_X10_areJoined at hf
  refine ite_d hf (fun hO hf => ?_) (fun _ hf => ?_)
  · refine ⟨hO, fun l G => mt_of (Or.inl (by decide)) (Nat.le_of_ble_eq_true rfl) Le.rf (fun E hE => ?_)⟩
    show Z E yX10_areJoined cX10_areJoined 4 (some .boolean) 1 (sh, d) 0 [(0, .ref l0), (1, .int l1), (2, .int l2)] []
    refine z_iload_n 1 dX10_areJoined_0 rfl rfl ?_
    refine z_if_lt 24 hf dX10_areJoined_1 (by decide) (fun hf => ?_) (fun hf => ?_)
    · exact zb_X10_areJoined_24 hE hf
    · refine z_iload_n 1 dX10_areJoined_4 rfl rfl ?_
      refine z_bipush 60 60 dX10_areJoined_5 (by decide) ?_
      refine z_icmp_ge 24 hf dX10_areJoined_7 (by decide) (fun hf => ?_) (fun hf => ?_)
      · exact zb_X10_areJoined_24 hE hf
      · refine z_iload_n 2 dX10_areJoined_10 rfl rfl ?_
        refine z_if_lt 24 hf dX10_areJoined_11 (by decide) (fun hf => ?_) (fun hf => ?_)
        · exact zb_X10_areJoined_24 hE hf
        · refine z_iload_n 2 dX10_areJoined_14 rfl rfl ?_
          refine z_bipush 60 60 dX10_areJoined_15 (by decide) ?_
          refine z_icmp_ge 24 hf dX10_areJoined_17 (by decide) (fun hf => ?_) (fun hf => ?_)
          · exact zb_X10_areJoined_24 hE hf
          · refine z_iconst 1 1 dX10_areJoined_20 (by decide) ?_
            refine z_goto 25 dX10_areJoined_21 (by decide) ?_
            exact zb_X10_areJoined_25 hE hf
  · cases hf
set_option maxRecDepth 20000 in
theorem zb_X10_between_43 {N : Nat} {sh : Sh} {d : Dt} {r : Int32} {E : EV} (hE : TG E (some (.int r)) (sh, d))  {t0 : Int32} (hf : f_X10_between_43 N sh t0 d = some r) : Z E yX10_between cX10_between 4 (some .int) 1 (sh, d) 43 [] [.int t0] := by
  unfold f_X10_between_43 at hf
  cases hf
  exact z_ireturn hE rfl dX10_between_43
set_option maxRecDepth 20000 in
theorem zb_X10_between_25 {N : Nat} {sh : Sh} {d : Dt} {r : Int32} {E : EV} (hE : TG E (some (.int r)) (sh, d))  {l0 : Nat} {l1 : Int32} {l2 : Int32} {t0 : Int32} (hf : f_X10_between_25 N sh l0 l1 l2 t0 d = some r) : Z E yX10_between cX10_between 4 (some .int) 1 (sh, d) 25 [(0, .ref l0), (1, .int l1), (2, .int l2)] [.int t0] := by
  unfold f_X10_between_25 at hf
  refine z_istore_n [(3, .int t0), (0, .ref l0), (1, .int l1), (2, .int l2)] dX10_between_25 rfl (by decide) rfl ?_
  refine z_iload_n 0 dX10_between_26 rfl rfl ?_
  refine z_if_eq 41 hf dX10_between_27 (by decide) (fun hf => ?_) (fun hf => ?_)
  · refine z_ldc mw_16_21 dX10_between_41 ?_
    refine z_lv [] [] rfl ?_
    exact zb_X10_between_43 hE hf
  · refine z_aload_n 1 dX10_between_30 rfl rfl ?_
    refine z_gP (ci := 10) (k := 3) (C := RX10) (T := TX10) (N := 6) rfl inlX10 (by decide) mw_4_16 (fun _ _ _ _ h9 => h9) hf (by decide) rfl dX10_between_31  (fun v1 hf => ?_)
    refine z_iload_n 3 dX10_between_34 rfl rfl ?_
    refine z_aR hf dX10_between_35  (fun v2 hf => ?_)
    refine z_iload_n 2 dX10_between_36 rfl rfl ?_
    refine z_aI hf dX10_between_37  (fun v3 hf => ?_)
    refine z_goto 43 dX10_between_38 (by decide) ?_
    refine z_lv [] [] rfl ?_
    exact zb_X10_between_43 hE hf
set_option maxRecDepth 20000 in
theorem zb_X10_between_24 {N : Nat} {sh : Sh} {d : Dt} {r : Int32} {E : EV} (hE : TG E (some (.int r)) (sh, d))  {l0 : Nat} {l1 : Int32} {l2 : Int32} (hf : f_X10_between_24 N sh l0 l1 l2 d = some r) : Z E yX10_between cX10_between 4 (some .int) 1 (sh, d) 24 [(0, .ref l0), (1, .int l1), (2, .int l2)] [] := by
  unfold f_X10_between_24 at hf
  refine z_iconst 0 0 dX10_between_24 (by decide) ?_
  exact zb_X10_between_25 hE hf
set_option maxRecDepth 20000 in
theorem zm_X10_between {N : Nat} {sh : Sh} {d : Dt} {l0 : Nat} {l1 : Int32} {l2 : Int32} {r : Int32} (hf : f_X10_between N sh l0 l1 l2 d = some r) : isO sh l0 10 ∧ ∀ (l : Launch) (G : GG), Mt l G yX10_between cX10_between 4 (some .int) 1 [.ref l0, .int l1, .int l2] (sh, d) (some (.int r)) (sh, d) := by
  have hf0 := hf
  unfold f_X10_between at hf
  refine ite_d hf (fun hO hf => ?_) (fun _ hf => ?_)
  · refine ⟨hO, fun l G => mt_of (Or.inl (by decide)) (Nat.le_of_ble_eq_true rfl) Le.rf (fun E hE => ?_)⟩
    show Z E yX10_between cX10_between 4 (some .int) 1 (sh, d) 0 [(0, .ref l0), (1, .int l1), (2, .int l2)] []
    refine z_iload_n 1 dX10_between_0 rfl rfl ?_
    refine z_if_lt 24 hf dX10_between_1 (by decide) (fun hf => ?_) (fun hf => ?_)
    · exact zb_X10_between_24 hE hf
    · refine z_iload_n 1 dX10_between_4 rfl rfl ?_
      refine z_bipush 60 60 dX10_between_5 (by decide) ?_
      refine z_icmp_ge 24 hf dX10_between_7 (by decide) (fun hf => ?_) (fun hf => ?_)
      · exact zb_X10_between_24 hE hf
      · refine z_iload_n 2 dX10_between_10 rfl rfl ?_
        refine z_if_lt 24 hf dX10_between_11 (by decide) (fun hf => ?_) (fun hf => ?_)
        · exact zb_X10_between_24 hE hf
        · refine z_iload_n 2 dX10_between_14 rfl rfl ?_
          refine z_bipush 60 60 dX10_between_15 (by decide) ?_
          refine z_icmp_ge 24 hf dX10_between_17 (by decide) (fun hf => ?_) (fun hf => ?_)
          · exact zb_X10_between_24 hE hf
          · refine z_iconst 1 1 dX10_between_20 (by decide) ?_
            refine z_goto 25 dX10_between_21 (by decide) ?_
            exact zb_X10_between_25 hE hf
  · cases hf
set_option maxRecDepth 20000 in
theorem zm_X10_forget {N : Nat} {sh : Sh} {d : Dt} {l0 : Nat} {r : Dt} (hf : f_X10_forget N sh l0 d = some r) : isO sh l0 10 ∧ ∀ (l : Launch) (G : GG), Mt l G yX10_forget cX10_forget 1 none 1 [.ref l0] (sh, d) none (sh, r) := by
  have hf0 := hf
  unfold f_X10_forget at hf
  refine ite_d hf (fun hO hf => ?_) (fun _ hf => ?_)
  · refine ⟨hO, fun l G => mt_of (Or.inl (by decide)) (Nat.le_of_ble_eq_true rfl) Le.rf (fun E hE => ?_)⟩
    show Z E yX10_forget cX10_forget 1 none 1 (sh, d) 0 [(0, .ref l0)] []
    refine z_aload_n 0 dX10_forget_0 rfl rfl ?_
    refine z_iconst 0 0 dX10_forget_1 (by decide) ?_
    refine z_pI (ci := 10) (k := 5) (C := RX10) (T := TX10) (N := 6) rfl inlX10 (by decide) mw_4_18 (fun _ _ _ _ h9 => h9) tyX10 tyX10_ok nmX10 rfl hf (Or.inl (by decide)) rfl rfl rfl dX10_forget_2  (fun d1 hf => ?_)
    cases hf
    exact z_return hE rfl dX10_forget_5
  · cases hf
set_option maxRecDepth 20000 in
theorem le_X10_init_51 {N : Nat} {r : AS}   {s : AS} (hf : f_X10_init_51 N  s = some r) : Le s r := by
  unfold f_X10_init_51 at hf
  cases hf
  exact Le.rf
set_option maxRecDepth 20000 in
theorem zb_X10_init_51 {N : Nat} {r : AS} {E : EV} (hE : TG E none r)    {s : AS} (hf : f_X10_init_51 N  s = some r) : Z E yX10_init cX10_init 2 none 1 s 51 [] [] := by
  unfold f_X10_init_51 at hf
  cases hf
  exact z_return hE rfl dX10_init_51
set_option maxRecDepth 20000 in
theorem le_X10_init_36 {N : Nat} {r : AS}  {l0 : Nat} {l1 : Nat} {s : AS} (hf : f_X10_init_36 N l0 l1 s = some r) : Le s r := by
  unfold f_X10_init_36 at hf
  obtain ⟨d7, -, hf⟩ := ob hf
  obtain ⟨d8, -, hf⟩ := ob hf
  obtain ⟨s9, es9, hf⟩ := ob hf
  refine Le.of (t := (s.1, d8)) rfl ((le_pP es9).tr ?_)
  exact Le.via (le_X10_init_51 hf) rfl
set_option maxRecDepth 20000 in
theorem zb_X10_init_36 {N : Nat} {r : AS} {E : EV} (hE : TG E none r)   {l0 : Nat} {l1 : Nat} {s : AS} (hf : f_X10_init_36 N l0 l1 s = some r) : Z E yX10_init cX10_init 2 none 1 s 36 [(0, .ref l0), (1, .ref l1)] [] := by
  unfold f_X10_init_36 at hf
  refine z_aload_n 0 dX10_init_36 rfl rfl ?_
  refine z_lconst 0 0 dX10_init_37 (by decide) ?_
  refine z_pJ (ci := 10) (k := 4) (C := RX10) (T := TX10) (N := 6) rfl inlX10 (by decide) mw_4_17 (fun _ _ _ _ h9 => h9) tyX10 tyX10_ok nmX10 rfl hf (Or.inl (by decide)) rfl rfl rfl dX10_init_38  (fun d7 hf => ?_)
  refine z_aload_n 0 dX10_init_41 rfl rfl ?_
  refine z_iconst 0 0 dX10_init_42 (by decide) ?_
  refine z_pI (ci := 10) (k := 5) (C := RX10) (T := TX10) (N := 6) rfl inlX10 (by decide) mw_4_18 (fun _ _ _ _ h9 => h9) tyX10 tyX10_ok nmX10 rfl hf (Or.inl (by decide)) rfl rfl rfl dX10_init_43  (fun d8 hf => ?_)
  refine z_aload_n 0 dX10_init_46 rfl rfl ?_
  refine z_aload_n 1 dX10_init_47 rfl rfl ?_
  refine z_pP (ci := 10) (k := 0) (C := RX10) (T := TX10) (N := 6) rfl inlX10 (by decide) mw_4_19 (fun _ _ _ _ h9 => h9) tyX10 tyX10_ok nmX10 rfl rfl rfl hf (Or.inl (by decide)) rfl rfl rfl dX10_init_48 (fun s9 es9 hf => ?_)
  refine z_lv [] [] rfl ?_
  exact zb_X10_init_51 hE hf
set_option maxRecDepth 20000 in
theorem le_X10_init_33 {N : Nat} {r : AS}  {l0 : Nat} {l1 : Nat} {t0 : Nat} {t1 : Nat} {s : AS} (hf : f_X10_init_33 N l0 l1 t0 t1 s = some r) : Le s r := by
  unfold f_X10_init_33 at hf
  obtain ⟨s6, es6, hf⟩ := ob hf
  refine Le.of (t := (s.1, s.2)) rfl ((le_pP es6).tr ?_)
  exact Le.via (le_X10_init_36 hf) rfl
set_option maxRecDepth 20000 in
theorem zb_X10_init_33 {N : Nat} {r : AS} {E : EV} (hE : TG E none r)   {l0 : Nat} {l1 : Nat} {t0 : Nat} {t1 : Nat} {s : AS} (hf : f_X10_init_33 N l0 l1 t0 t1 s = some r) : Z E yX10_init cX10_init 2 none 1 s 33 [(0, .ref l0), (1, .ref l1)] [.ref t1, .ref t0] := by
  unfold f_X10_init_33 at hf
  refine z_pP (ci := 10) (k := 3) (C := RX10) (T := TX10) (N := 6) rfl inlX10 (by decide) mw_4_16 (fun _ _ _ _ h9 => h9) tyX10 tyX10_ok nmX10 rfl rfl rfl hf (Or.inl (by decide)) rfl rfl rfl dX10_init_33 (fun s6 es6 hf => ?_)
  exact zb_X10_init_36 hE hf
set_option maxRecDepth 20000 in
theorem le_X10_init_24 {N : Nat} {r : AS}  {l0 : Nat} {l1 : Nat} {s : AS} (hf : f_X10_init_24 N l0 l1 s = some r) : Le s r := by
  unfold f_X10_init_24 at hf
  obtain ⟨s5, es5, hf⟩ := ob hf
  refine Le.of (t := (s.1, s.2)) rfl ((le_nMul es5).tr ?_)
  exact Le.via (le_X10_init_33 hf) rfl
set_option maxRecDepth 20000 in
theorem zb_X10_init_24 {N : Nat} {r : AS} {E : EV} (hE : TG E none r)   {l0 : Nat} {l1 : Nat} {s : AS} (hf : f_X10_init_24 N l0 l1 s = some r) : Z E yX10_init cX10_init 2 none 1 s 24 [(0, .ref l0), (1, .ref l1)] [] := by
  unfold f_X10_init_24 at hf
  refine z_aload_n 0 dX10_init_24 rfl rfl ?_
  refine z_bipush 60 60 dX10_init_25 (by decide) ?_
  refine z_bipush 60 60 dX10_init_27 (by decide) ?_
  refine z_mul hf (fun _ hf => tg_le hE (le_X10_init_33 hf)) mw_4_13 mw_2_13 dX10_init_29 (fun s5 hf => ?_)
  exact zb_X10_init_33 hE hf
set_option maxRecDepth 20000 in
theorem le_X10_init_21 {N : Nat} {r : AS}  {l0 : Nat} {l1 : Nat} {t0 : Nat} {t1 : Nat} {s : AS} (hf : f_X10_init_21 N l0 l1 t0 t1 s = some r) : Le s r := by
  unfold f_X10_init_21 at hf
  obtain ⟨s4, es4, hf⟩ := ob hf
  refine Le.of (t := (s.1, s.2)) rfl ((le_pP es4).tr ?_)
  exact Le.via (le_X10_init_24 hf) rfl
set_option maxRecDepth 20000 in
theorem zb_X10_init_21 {N : Nat} {r : AS} {E : EV} (hE : TG E none r)   {l0 : Nat} {l1 : Nat} {t0 : Nat} {t1 : Nat} {s : AS} (hf : f_X10_init_21 N l0 l1 t0 t1 s = some r) : Z E yX10_init cX10_init 2 none 1 s 21 [(0, .ref l0), (1, .ref l1)] [.ref t1, .ref t0] := by
  unfold f_X10_init_21 at hf
  refine z_pP (ci := 10) (k := 2) (C := RX10) (T := TX10) (N := 6) rfl inlX10 (by decide) mw_4_15 (fun _ _ _ _ h9 => h9) tyX10 tyX10_ok nmX10 rfl rfl rfl hf (Or.inl (by decide)) rfl rfl rfl dX10_init_21 (fun s4 es4 hf => ?_)
  exact zb_X10_init_24 hE hf
set_option maxRecDepth 20000 in
theorem le_X10_init_16 {N : Nat} {r : AS}  {l0 : Nat} {l1 : Nat} {s : AS} (hf : f_X10_init_16 N l0 l1 s = some r) : Le s r := by
  unfold f_X10_init_16 at hf
  obtain ⟨s3, es3, hf⟩ := ob hf
  refine Le.of (t := (s.1, s.2)) rfl ((le_nArr es3).tr ?_)
  exact Le.via (le_X10_init_21 hf) rfl
set_option maxRecDepth 20000 in
theorem zb_X10_init_16 {N : Nat} {r : AS} {E : EV} (hE : TG E none r)   {l0 : Nat} {l1 : Nat} {s : AS} (hf : f_X10_init_16 N l0 l1 s = some r) : Z E yX10_init cX10_init 2 none 1 s 16 [(0, .ref l0), (1, .ref l1)] [] := by
  unfold f_X10_init_16 at hf
  refine z_aload_n 0 dX10_init_16 rfl rfl ?_
  refine z_bipush 60 60 dX10_init_17 (by decide) ?_
  refine z_na1 hf (fun _ hf => tg_le hE (le_X10_init_21 hf)) mw_3_20 dX10_init_19 (fun s3 hf => ?_)
  exact zb_X10_init_21 hE hf
set_option maxRecDepth 20000 in
theorem le_X10_init_13 {N : Nat} {r : AS}  {l0 : Nat} {l1 : Nat} {t0 : Nat} {t1 : Nat} {s : AS} (hf : f_X10_init_13 N l0 l1 t0 t1 s = some r) : Le s r := by
  unfold f_X10_init_13 at hf
  obtain ⟨s2, es2, hf⟩ := ob hf
  refine Le.of (t := (s.1, s.2)) rfl ((le_pP es2).tr ?_)
  exact Le.via (le_X10_init_16 hf) rfl
set_option maxRecDepth 20000 in
theorem zb_X10_init_13 {N : Nat} {r : AS} {E : EV} (hE : TG E none r)   {l0 : Nat} {l1 : Nat} {t0 : Nat} {t1 : Nat} {s : AS} (hf : f_X10_init_13 N l0 l1 t0 t1 s = some r) : Z E yX10_init cX10_init 2 none 1 s 13 [(0, .ref l0), (1, .ref l1)] [.ref t1, .ref t0] := by
  unfold f_X10_init_13 at hf
  refine z_pP (ci := 10) (k := 1) (C := RX10) (T := TX10) (N := 6) rfl inlX10 (by decide) mw_4_14 (fun _ _ _ _ h9 => h9) tyX10 tyX10_ok nmX10 rfl rfl rfl hf (Or.inl (by decide)) rfl rfl rfl dX10_init_13 (fun s2 es2 hf => ?_)
  exact zb_X10_init_16 hE hf
set_option maxRecDepth 20000 in
theorem lm_X10_init {N : Nat} {s : AS} {l0 : Nat} {l1 : Nat} {r : AS} (hf : f_X10_init N l0 l1 s = some r) : Le s r := by
  unfold f_X10_init at hf
  refine ite_c hf (fun hf => ?_) (fun hf => ?_)
  · skip
    obtain ⟨s1, es1, hf⟩ := ob hf
    refine Le.of (t := (s.1, s.2)) rfl ((le_nMul es1).tr ?_)
    exact Le.via (le_X10_init_13 hf) rfl
  · cases hf
set_option maxRecDepth 20000 in
theorem zm_X10_init {N : Nat} {s : AS} {l0 : Nat} {l1 : Nat} {r : AS} (hf : f_X10_init N l0 l1 s = some r) : isO s.1 l0 10 ∧ ∀ (l : Launch) (G : GG), Mt l G yX10_init cX10_init 2 none 1 [.ref l0, .ref l1] s none r := by
  have hf0 := hf
  unfold f_X10_init at hf
  refine ite_d hf (fun hO hf => ?_) (fun _ hf => ?_)
  · refine ⟨hO, fun l G => mt_of (Or.inl (by decide)) (Nat.le_of_ble_eq_true rfl) (lm_X10_init hf0) (fun E hE => ?_)⟩
    show Z E yX10_init cX10_init 2 none 1 s 0 [(0, .ref l0), (1, .ref l1)] []
    refine z_aload_n 0 dX10_init_0 rfl rfl ?_
    refine z_objInit mw_4_12 mw_1_10 mw_1_11 (by decide) (Nat.le_of_ble_eq_true rfl) dX10_init_1 ?_
    refine z_aload_n 0 dX10_init_4 rfl rfl ?_
    refine z_bipush 60 60 dX10_init_5 (by decide) ?_
    refine z_bipush 60 60 dX10_init_7 (by decide) ?_
    refine z_mul hf (fun _ hf => tg_le hE (le_X10_init_13 hf)) mw_4_13 mw_2_13 dX10_init_9 (fun s1 hf => ?_)
    exact zb_X10_init_13 hE hf
  · cases hf
set_option maxRecDepth 20000 in
theorem zm_X11_lowest {N : Nat} {sh : Sh} {d : Dt} {l0 : Int64} {r : Int32} (hf : f_X11_lowest N sh l0 d = some r) : ∀ (l : Launch) (G : GG), Mt l G yX11_lowest cX11_lowest 2 (some .int) 2 [.long l0] (sh, d) (some (.int r)) (sh, d) := by
  have hf0 := hf
  unfold f_X11_lowest at hf
  refine fun l G => mt_of (Or.inl (by decide)) (Nat.le_of_ble_eq_true rfl) Le.rf (fun E hE => ?_)
  show Z E yX11_lowest cX11_lowest 2 (some .int) 2 (sh, d) 0 [(0, .long l0)] []
  refine z_lload_n 0 dX11_lowest_0 rfl rfl ?_
  refine z_lload_n 0 dX11_lowest_1 rfl rfl ?_
  refine z_lneg dX11_lowest_2 ?_
  refine z_land dX11_lowest_3 ?_
  refine z_lconst 1 1 dX11_lowest_4 (by decide) ?_
  refine z_lsub dX11_lowest_5 ?_
  obtain ⟨v1, ev1, hf⟩ := ob hf
  refine z_cTi (As := [.long ((l0 &&& (-l0)) - (1 : Int64))]) (rest := []) (zm_J13_bitCount_95d88 ev1) (Or.inl rfl) mw_17_4 mw_17_5 mw_17_6 mw_17_7 yk_J13_bitCount_95d88 (by decide) (by decide) rfl (Nat.le_of_ble_eq_true rfl) rfl dX11_lowest_6 ?_
  cases hf
  exact z_ireturn hE rfl dX11_lowest_9
set_option maxRecDepth 20000 in
theorem zb_X10_nearestOf_64 {N : Nat} {sh : Sh} {d : Dt} {r : Int32} {E : EV} (hE : TG E (some (.int r)) (sh, d))  {l3 : Int32} (hf : f_X10_nearestOf_64 N sh l3 d = some r) : Z E yX10_nearestOf cX10_nearestOf 8 (some .int) 3 (sh, d) 64 [(3, .int l3)] [] := by
  unfold f_X10_nearestOf_64 at hf
  refine z_iload_n 0 dX10_nearestOf_64 rfl rfl ?_
  cases hf
  exact z_ireturn hE rfl dX10_nearestOf_65
set_option maxRecDepth 20000 in
theorem zb_X10_nearestOf_58 {N : Nat} {sh : Sh} {d : Dt} {k15 : Nat → Int32 → Int64 → Int32 → Option Int32} {r : Int32} {E : EV} (hE : TG E (some (.int r)) (sh, d)) (hk15 : ∀ (l0 : Nat) (l3 : Int32) (l4 : Int64) (l6 : Int32), k15 l0 l3 l4 l6 = some r → Z E yX10_nearestOf cX10_nearestOf 8 (some .int) 3 (sh, d) 15 [(0, .ref l0), (3, .int l3), (4, .long l4), (6, .int l6)] []) {l0 : Nat} {l3 : Int32} {l4 : Int64} {l6 : Int32} (hf : f_X10_nearestOf_58 N sh k15 l0 l3 l4 l6 d = some r) : Z E yX10_nearestOf cX10_nearestOf 8 (some .int) 3 (sh, d) 58 [(0, .ref l0), (3, .int l3), (4, .long l4), (6, .int l6)] [] := by
  unfold f_X10_nearestOf_58 at hf
  refine z_iinc [(6, .int (l6 + 1)), (0, .ref l0), (3, .int l3), (4, .long l4)] 3 (l6 + 1) dX10_nearestOf_58 rfl rfl (by decide) rfl ?_
  refine z_goto 15 dX10_nearestOf_61 (by decide) ?_
  refine z_lv [(0, .ref l0), (3, .int l3), (4, .long l4), (6, .int (l6 + 1))] [1, 2, 3, 0] rfl ?_
  exact hk15 _ _ _ _ hf
set_option maxRecDepth 20000 in
theorem zg_X10_nearestOf_15 {N : Nat} {sh : Sh} {d : Dt} {r : Int32} {k15 : Nat → Int32 → Int64 → Int32 → Option Int32} {E : EV} (hE : TG E (some (.int r)) (sh, d))  (hk15 : ∀ (l0 : Nat) (l3 : Int32) (l4 : Int64) (l6 : Int32), k15 l0 l3 l4 l6 = some r → Z E yX10_nearestOf cX10_nearestOf 8 (some .int) 3 (sh, d) 15 [(0, .ref l0), (3, .int l3), (4, .long l4), (6, .int l6)] []) {l0 : Nat} {l3 : Int32} {l4 : Int64} {l6 : Int32} (hf : g_X10_nearestOf_15 N sh k15 l0 l3 l4 l6 d = some r) : Z E yX10_nearestOf cX10_nearestOf 8 (some .int) 3 (sh, d) 15 [(0, .ref l0), (3, .int l3), (4, .long l4), (6, .int l6)] [] := by
  unfold g_X10_nearestOf_15 at hf
  refine z_iload 3 dX10_nearestOf_15 rfl ?_
  refine z_bipush 60 60 dX10_nearestOf_17 (by decide) ?_
  refine z_icmp_ge 64 hf dX10_nearestOf_19 (by decide) (fun hf => ?_) (fun hf => ?_)
  · refine z_lv [(3, .int l3)] [1] rfl ?_
    exact zb_X10_nearestOf_64 hE hf
  · refine z_lload 2 dX10_nearestOf_22 rfl ?_
    refine z_lconst 0 0 dX10_nearestOf_24 (by decide) ?_
    refine z_lcmp dX10_nearestOf_25 ?_
    refine z_if_eq 64 hf dX10_nearestOf_26 (by decide) (fun hf => ?_) (fun hf => ?_)
    · refine z_lv [(3, .int l3)] [1] rfl ?_
      exact zb_X10_nearestOf_64 hE hf
    · refine z_lload 2 dX10_nearestOf_29 rfl ?_
      obtain ⟨v2, ev2, hf⟩ := ob hf
      refine z_cNi (As := [.long l4]) (rest := []) (zm_X11_lowest ev2) (Or.inl rfl) (fun _ _ hK => hK.2.2.2.2.1) mw_17_2 mw_1_2 mw_17_3 yk_X11_lowest (by decide) (by decide) rfl (Nat.le_of_ble_eq_true rfl) rfl dX10_nearestOf_31 ?_
      refine z_istore [(7, .int v2), (0, .ref l0), (3, .int l3), (4, .long l4), (6, .int l6)] dX10_nearestOf_34 (by decide) rfl ?_
      refine z_lload 3 dX10_nearestOf_36 rfl ?_
      refine z_lload 3 dX10_nearestOf_38 rfl ?_
      refine z_lconst 1 1 dX10_nearestOf_40 (by decide) ?_
      refine z_lsub dX10_nearestOf_41 ?_
      refine z_land dX10_nearestOf_42 ?_
      refine z_lstore [(4, .long (l4 &&& (l4 - (1 : Int64)))), (7, .int v2), (0, .ref l0), (3, .int l3), (6, .int l6)] dX10_nearestOf_43 (by decide) rfl ?_
      refine z_aload_n 2 dX10_nearestOf_45 rfl rfl ?_
      refine z_iload 1 dX10_nearestOf_46 rfl ?_
      refine z_aI hf dX10_nearestOf_48  (fun v3 hf => ?_)
      refine z_aload_n 2 dX10_nearestOf_49 rfl rfl ?_
      refine z_iload_n 3 dX10_nearestOf_50 rfl rfl ?_
      refine z_aI hf dX10_nearestOf_51  (fun v4 hf => ?_)
      refine z_icmp_ge 58 hf dX10_nearestOf_52 (by decide) (fun hf => ?_) (fun hf => ?_)
      · refine z_lv [(0, .ref l0), (3, .int l3), (4, .long (l4 &&& (l4 - (1 : Int64)))), (6, .int l6)] [2, 3, 0, 4] rfl ?_
        exact zb_X10_nearestOf_58 hE hk15 hf
      · refine z_iload 1 dX10_nearestOf_55 rfl ?_
        refine z_istore_n [(3, .int v2), (4, .long (l4 &&& (l4 - (1 : Int64)))), (7, .int v2), (0, .ref l0), (6, .int l6)] dX10_nearestOf_57 rfl (by decide) rfl ?_
        refine z_lv [(0, .ref l0), (3, .int v2), (4, .long (l4 &&& (l4 - (1 : Int64)))), (6, .int l6)] [3, 0, 1, 4] rfl ?_
        exact zb_X10_nearestOf_58 hE hk15 hf
set_option maxRecDepth 20000 in
theorem zb_X10_nearestOf_15 {N : Nat} {sh : Sh} {d : Dt} {r : Int32} {E : EV} (hE : TG E (some (.int r)) (sh, d))  : ∀ (n : Nat) (l0 : Nat) (l3 : Int32) (l4 : Int64) (l6 : Int32), f_X10_nearestOf_15 N sh d n l0 l3 l4 l6 = some r → Z E yX10_nearestOf cX10_nearestOf 8 (some .int) 3 (sh, d) 15 [(0, .ref l0), (3, .int l3), (4, .long l4), (6, .int l6)] [] := by
  intro n
  induction n with
  | zero => intro l0 l3 l4 l6 hf; cases hf
  | succ n ih => intro l0 l3 l4 l6 hf; exact zg_X10_nearestOf_15 hE ih hf
set_option maxRecDepth 20000 in
theorem zm_X10_nearestOf {N : Nat} {sh : Sh} {d : Dt} {l0 : Nat} {l1 : Int64} {r : Int32} (hf : f_X10_nearestOf N sh l0 l1 d = some r) : ∀ (l : Launch) (G : GG), Mt l G yX10_nearestOf cX10_nearestOf 8 (some .int) 3 [.ref l0, .long l1] (sh, d) (some (.int r)) (sh, d) := by
  have hf0 := hf
  unfold f_X10_nearestOf at hf
  refine fun l G => mt_of (Or.inl (by decide)) (Nat.le_of_ble_eq_true rfl) Le.rf (fun E hE => ?_)
  show Z E yX10_nearestOf cX10_nearestOf 8 (some .int) 3 (sh, d) 0 [(0, .ref l0), (1, .long l1)] []
  refine z_lload_n 1 dX10_nearestOf_0 rfl rfl ?_
  obtain ⟨v1, ev1, hf⟩ := ob hf
  refine z_cNi (As := [.long l1]) (rest := []) (zm_X11_lowest ev1) (Or.inl rfl) (fun _ _ hK => hK.2.2.2.2.1) mw_17_2 mw_1_2 mw_17_3 yk_X11_lowest (by decide) (by decide) rfl (Nat.le_of_ble_eq_true rfl) rfl dX10_nearestOf_1 ?_
  refine z_istore_n [(3, .int v1), (0, .ref l0), (1, .long l1)] dX10_nearestOf_4 rfl (by decide) rfl ?_
  refine z_lload_n 2 dX10_nearestOf_5 rfl rfl ?_
  refine z_lload_n 2 dX10_nearestOf_6 rfl rfl ?_
  refine z_lconst 1 1 dX10_nearestOf_7 (by decide) ?_
  refine z_lsub dX10_nearestOf_8 ?_
  refine z_land dX10_nearestOf_9 ?_
  refine z_lstore [(4, .long (l1 &&& (l1 - (1 : Int64)))), (3, .int v1), (0, .ref l0), (1, .long l1)] dX10_nearestOf_10 (by decide) rfl ?_
  refine z_iconst 0 0 dX10_nearestOf_12 (by decide) ?_
  refine z_istore [(6, .int (0 : Int32)), (4, .long (l1 &&& (l1 - (1 : Int64)))), (3, .int v1), (0, .ref l0), (1, .long l1)] dX10_nearestOf_13 (by decide) rfl ?_
  refine z_lv [(0, .ref l0), (3, .int v1), (4, .long (l1 &&& (l1 - (1 : Int64)))), (6, .int (0 : Int32))] [3, 2, 1, 0] rfl ?_
  exact zb_X10_nearestOf_15 hE N _ _ _ _ hf
set_option maxRecDepth 20000 in
theorem zb_X8_get_37 {N : Nat} {sh : Sh} {d : Dt} {r : Int32} {E : EV} (hE : TG E (some (.int r)) (sh, d))  {t0 : Int32} (hf : f_X8_get_37 N sh t0 d = some r) : Z E yX8_get cX8_get 3 (some .int) 1 (sh, d) 37 [] [.int t0] := by
  unfold f_X8_get_37 at hf
  cases hf
  exact z_ireturn hE rfl dX8_get_37
set_option maxRecDepth 20000 in
theorem zb_X8_get_36 {N : Nat} {sh : Sh} {d : Dt} {r : Int32} {E : EV} (hE : TG E (some (.int r)) (sh, d))   (hf : f_X8_get_36 N sh  d = some r) : Z E yX8_get cX8_get 3 (some .int) 1 (sh, d) 36 [] [] := by
  unfold f_X8_get_36 at hf
  refine z_iconst (-1) (-1) dX8_get_36 (by decide) ?_
  exact zb_X8_get_37 hE hf
set_option maxRecDepth 20000 in
theorem zm_X8_get {N : Nat} {sh : Sh} {d : Dt} {l0 : Nat} {l1 : Int32} {l2 : Int32} {r : Int32} (hf : f_X8_get N sh l0 l1 l2 d = some r) : isO sh l0 8 ∧ ∀ (l : Launch) (G : GG), Mt l G yX8_get cX8_get 3 (some .int) 1 [.ref l0, .int l1, .int l2] (sh, d) (some (.int r)) (sh, d) := by
  have hf0 := hf
  unfold f_X8_get at hf
  refine ite_d hf (fun hO hf => ?_) (fun _ hf => ?_)
  · refine ⟨hO, fun l G => mt_of (Or.inl (by decide)) (Nat.le_of_ble_eq_true rfl) Le.rf (fun E hE => ?_)⟩
    show Z E yX8_get cX8_get 3 (some .int) 1 (sh, d) 0 [(0, .ref l0), (1, .int l1), (2, .int l2)] []
    refine z_iload_n 1 dX8_get_0 rfl rfl ?_
    refine z_if_lt 36 hf dX8_get_1 (by decide) (fun hf => ?_) (fun hf => ?_)
    · refine z_lv [] [] rfl ?_
      exact zb_X8_get_36 hE hf
    · refine z_iload_n 1 dX8_get_4 rfl rfl ?_
      refine z_aload_n 0 dX8_get_5 rfl rfl ?_
      refine z_gI (ci := 8) (k := 1) (C := RX8) (T := TX8) (N := 2) rfl inlX8 (by decide) mw_4_2 (fun _ _ _ _ h9 => h9) hf (by decide) rfl dX8_get_6  (fun v1 hf => ?_)
      refine z_icmp_ge 36 hf dX8_get_9 (by decide) (fun hf => ?_) (fun hf => ?_)
      · refine z_lv [] [] rfl ?_
        exact zb_X8_get_36 hE hf
      · refine z_iload_n 2 dX8_get_12 rfl rfl ?_
        refine z_if_lt 36 hf dX8_get_13 (by decide) (fun hf => ?_) (fun hf => ?_)
        · refine z_lv [] [] rfl ?_
          exact zb_X8_get_36 hE hf
        · refine z_iload_n 2 dX8_get_16 rfl rfl ?_
          refine z_aload_n 0 dX8_get_17 rfl rfl ?_
          refine z_gP (ci := 8) (k := 0) (C := RX8) (T := TX8) (N := 2) rfl inlX8 (by decide) mw_4_4 (fun _ _ _ _ h9 => h9) hf (by decide) rfl dX8_get_18  (fun v2 hf => ?_)
          refine z_aLen hf dX8_get_21  (fun v3 hf => ?_)
          refine z_icmp_ge 36 hf dX8_get_22 (by decide) (fun hf => ?_) (fun hf => ?_)
          · refine z_lv [] [] rfl ?_
            exact zb_X8_get_36 hE hf
          · refine z_aload_n 0 dX8_get_25 rfl rfl ?_
            refine z_gP (ci := 8) (k := 0) (C := RX8) (T := TX8) (N := 2) rfl inlX8 (by decide) mw_4_4 (fun _ _ _ _ h9 => h9) hf (by decide) rfl dX8_get_26  (fun v4 hf => ?_)
            refine z_iload_n 2 dX8_get_29 rfl rfl ?_
            refine z_aR hf dX8_get_30  (fun v5 hf => ?_)
            refine z_iload_n 1 dX8_get_31 rfl rfl ?_
            refine z_aI hf dX8_get_32  (fun v6 hf => ?_)
            refine z_goto 37 dX8_get_33 (by decide) ?_
            refine z_lv [] [] rfl ?_
            exact zb_X8_get_37 hE hf
  · cases hf
set_option maxRecDepth 20000 in
theorem zb_X10_measure_167 {N : Nat} {sh : Sh} {r : Dt} {E : EV} (hE : TG E none (sh, r))   {d : Dt} (hf : f_X10_measure_167 N sh  d = some r) : Z E yX10_measure cX10_measure 13 none 4 (sh, d) 167 [] [] := by
  unfold f_X10_measure_167 at hf
  cases hf
  exact z_return hE rfl dX10_measure_167
set_option maxRecDepth 20000 in
theorem zb_X10_measure_161 {N : Nat} {sh : Sh} {k27 : Nat → Nat → Int64 → Int64 → Int32 → Dt → Option Dt} {r : Dt} {E : EV} (hE : TG E none (sh, r)) (hk27 : ∀ (l0 : Nat) (l2 : Nat) (l3 : Int64) (l5 : Int64) (l7 : Int32) (d : Dt), k27 l0 l2 l3 l5 l7 d = some r → Z E yX10_measure cX10_measure 13 none 4 (sh, d) 27 [(0, .ref l0), (2, .ref l2), (3, .long l3), (5, .long l5), (7, .int l7)] []) {l0 : Nat} {l2 : Nat} {l3 : Int64} {l5 : Int64} {l7 : Int32} {d : Dt} (hf : f_X10_measure_161 N sh k27 l0 l2 l3 l5 l7 d = some r) : Z E yX10_measure cX10_measure 13 none 4 (sh, d) 161 [(0, .ref l0), (2, .ref l2), (3, .long l3), (5, .long l5), (7, .int l7)] [] := by
  unfold f_X10_measure_161 at hf
  refine z_iinc [(7, .int (l7 + 1)), (0, .ref l0), (2, .ref l2), (3, .long l3), (5, .long l5)] 4 (l7 + 1) dX10_measure_161 rfl rfl (by decide) rfl ?_
  refine z_goto 27 dX10_measure_164 (by decide) ?_
  refine z_lv [(0, .ref l0), (2, .ref l2), (3, .long l3), (5, .long l5), (7, .int (l7 + 1))] [1, 2, 3, 4, 0] rfl ?_
  exact hk27 _ _ _ _ _ _ hf
set_option maxRecDepth 20000 in
theorem zg_X10_measure_87 {N : Nat} {sh : Sh} {k27 : Nat → Nat → Int64 → Int64 → Int32 → Dt → Option Dt} {r : Dt} {k87 : Nat → Nat → Int64 → Int64 → Int32 → Int32 → Int64 → Int32 → Dt → Option Dt} {E : EV} (hE : TG E none (sh, r)) (hk27 : ∀ (l0 : Nat) (l2 : Nat) (l3 : Int64) (l5 : Int64) (l7 : Int32) (d : Dt), k27 l0 l2 l3 l5 l7 d = some r → Z E yX10_measure cX10_measure 13 none 4 (sh, d) 27 [(0, .ref l0), (2, .ref l2), (3, .long l3), (5, .long l5), (7, .int l7)] []) (hk87 : ∀ (l0 : Nat) (l2 : Nat) (l3 : Int64) (l5 : Int64) (l7 : Int32) (l8 : Int32) (l9 : Int64) (l11 : Int32) (d : Dt), k87 l0 l2 l3 l5 l7 l8 l9 l11 d = some r → Z E yX10_measure cX10_measure 13 none 4 (sh, d) 87 [(0, .ref l0), (2, .ref l2), (3, .long l3), (5, .long l5), (7, .int l7), (8, .int l8), (9, .long l9), (11, .int l11)] []) {l0 : Nat} {l2 : Nat} {l3 : Int64} {l5 : Int64} {l7 : Int32} {l8 : Int32} {l9 : Int64} {l11 : Int32} {d : Dt} (hf : g_X10_measure_87 N sh k27 k87 l0 l2 l3 l5 l7 l8 l9 l11 d = some r) : Z E yX10_measure cX10_measure 13 none 4 (sh, d) 87 [(0, .ref l0), (2, .ref l2), (3, .long l3), (5, .long l5), (7, .int l7), (8, .int l8), (9, .long l9), (11, .int l11)] [] := by
  unfold g_X10_measure_87 at hf
  refine z_iload 7 dX10_measure_87 rfl ?_
  refine z_bipush 60 60 dX10_measure_89 (by decide) ?_
  refine z_icmp_ge 161 hf dX10_measure_91 (by decide) (fun hf => ?_) (fun hf => ?_)
  · refine z_lv [(0, .ref l0), (2, .ref l2), (3, .long l3), (5, .long l5), (7, .int l7)] [0, 1, 2, 3, 4] rfl ?_
    exact zb_X10_measure_161 hE hk27 hf
  · refine z_lload 6 dX10_measure_94 rfl ?_
    refine z_lconst 0 0 dX10_measure_96 (by decide) ?_
    refine z_lcmp dX10_measure_97 ?_
    refine z_if_eq 161 hf dX10_measure_98 (by decide) (fun hf => ?_) (fun hf => ?_)
    · refine z_lv [(0, .ref l0), (2, .ref l2), (3, .long l3), (5, .long l5), (7, .int l7)] [0, 1, 2, 3, 4] rfl ?_
      exact zb_X10_measure_161 hE hk27 hf
    · refine z_lload 6 dX10_measure_101 rfl ?_
      obtain ⟨v8, ev8, hf⟩ := ob hf
      refine z_cNi (As := [.long l9]) (rest := []) (zm_X11_lowest ev8) (Or.inl rfl) (fun _ _ hK => hK.2.2.2.2.1) mw_17_2 mw_1_2 mw_17_3 yk_X11_lowest (by decide) (by decide) rfl (Nat.le_of_ble_eq_true rfl) rfl dX10_measure_103 ?_
      refine z_istore [(12, .int v8), (0, .ref l0), (2, .ref l2), (3, .long l3), (5, .long l5), (7, .int l7), (8, .int l8), (9, .long l9), (11, .int l11)] dX10_measure_106 (by decide) rfl ?_
      refine z_lload 7 dX10_measure_108 rfl ?_
      refine z_lload 7 dX10_measure_110 rfl ?_
      refine z_lconst 1 1 dX10_measure_112 (by decide) ?_
      refine z_lsub dX10_measure_113 ?_
      refine z_land dX10_measure_114 ?_
      refine z_lstore [(9, .long (l9 &&& (l9 - (1 : Int64)))), (12, .int v8), (0, .ref l0), (2, .ref l2), (3, .long l3), (5, .long l5), (7, .int l7), (8, .int l8), (11, .int l11)] dX10_measure_115 (by decide) rfl ?_
      refine z_aload_n 3 dX10_measure_117 rfl rfl ?_
      refine z_iload 1 dX10_measure_118 rfl ?_
      refine z_aload_n 3 dX10_measure_120 rfl rfl ?_
      refine z_iload 1 dX10_measure_121 rfl ?_
      refine z_aI hf dX10_measure_123  (fun v9 hf => ?_)
      refine z_aload_n 3 dX10_measure_124 rfl rfl ?_
      refine z_iload 7 dX10_measure_125 rfl ?_
      refine z_aI hf dX10_measure_127  (fun v10 hf => ?_)
      refine z_aload_n 2 dX10_measure_128 rfl rfl ?_
      refine z_gP (ci := 10) (k := 0) (C := RX10) (T := TX10) (N := 6) rfl inlX10 (by decide) mw_4_19 (fun _ _ _ _ h9 => h9) hf (by decide) rfl dX10_measure_129  (fun v11 hf => ?_)
      refine z_gP (ci := 1) (k := 1) (C := RX1) (T := TX1) (N := 8) rfl inlX1 (by decide) mw_16_6 (fun _ _ _ _ h9 => h9) hf (by decide) rfl dX10_measure_132  (fun v12 hf => ?_)
      refine z_aload_n 2 dX10_measure_135 rfl rfl ?_
      refine z_gP (ci := 10) (k := 1) (C := RX10) (T := TX10) (N := 6) rfl inlX10 (by decide) mw_4_14 (fun _ _ _ _ h9 => h9) hf (by decide) rfl dX10_measure_136  (fun v13 hf => ?_)
      refine z_iload 1 dX10_measure_139 rfl ?_
      refine z_aR hf dX10_measure_141  (fun v14 hf => ?_)
      refine z_iload 7 dX10_measure_142 rfl ?_
      refine z_aI hf dX10_measure_144  (fun v15 hf => ?_)
      refine z_bipush 6 6 dX10_measure_145 (by decide) ?_
      obtain ⟨v16, ev16, hf⟩ := ob hf
      refine z_cVi (ci := 8) (T := TX8) (N := 2) (As := [.int v15, .int (6 : Int32)]) (rest := [.int v10, .int v9, .int v8, .ref l2]) (zm_X8_get ev16).2 (zm_X8_get ev16).1 (by decide) rfl (Or.inl rfl) mw_16_12 mw_10_11 mw_10_12 mw_3_13 mw_10_13 yk_X8_get (by decide) (by decide) rfl (Nat.le_of_ble_eq_true rfl) rfl dX10_measure_147 ?_
      refine z_iadd dX10_measure_150 ?_
      refine z_min mw_16_22 mw_9_20 mw_8_22 mw_9_21 (by decide) (Nat.le_of_ble_eq_true rfl) dX10_measure_151 ?_
      refine z_sI hf dX10_measure_154  (fun d17 hf => ?_)
      refine z_iinc [(11, .int (l11 + 1)), (9, .long (l9 &&& (l9 - (1 : Int64)))), (12, .int v8), (0, .ref l0), (2, .ref l2), (3, .long l3), (5, .long l5), (7, .int l7), (8, .int l8)] 8 (l11 + 1) dX10_measure_155 rfl rfl (by decide) rfl ?_
      refine z_goto 87 dX10_measure_158 (by decide) ?_
      refine z_lv [(0, .ref l0), (2, .ref l2), (3, .long l3), (5, .long l5), (7, .int l7), (8, .int l8), (9, .long (l9 &&& (l9 - (1 : Int64)))), (11, .int (l11 + 1))] [3, 4, 5, 6, 7, 8, 1, 0] rfl ?_
      exact hk87 _ _ _ _ _ _ _ _ _ hf
set_option maxRecDepth 20000 in
theorem zb_X10_measure_87 {N : Nat} {sh : Sh} {k27 : Nat → Nat → Int64 → Int64 → Int32 → Dt → Option Dt} {r : Dt} {E : EV} (hE : TG E none (sh, r)) (hk27 : ∀ (l0 : Nat) (l2 : Nat) (l3 : Int64) (l5 : Int64) (l7 : Int32) (d : Dt), k27 l0 l2 l3 l5 l7 d = some r → Z E yX10_measure cX10_measure 13 none 4 (sh, d) 27 [(0, .ref l0), (2, .ref l2), (3, .long l3), (5, .long l5), (7, .int l7)] []) : ∀ (n : Nat) (l0 : Nat) (l2 : Nat) (l3 : Int64) (l5 : Int64) (l7 : Int32) (l8 : Int32) (l9 : Int64) (l11 : Int32) (d : Dt), f_X10_measure_87 N sh k27 n l0 l2 l3 l5 l7 l8 l9 l11 d = some r → Z E yX10_measure cX10_measure 13 none 4 (sh, d) 87 [(0, .ref l0), (2, .ref l2), (3, .long l3), (5, .long l5), (7, .int l7), (8, .int l8), (9, .long l9), (11, .int l11)] [] := by
  intro n
  induction n with
  | zero => intro l0 l2 l3 l5 l7 l8 l9 l11 d hf; cases hf
  | succ n ih => intro l0 l2 l3 l5 l7 l8 l9 l11 d hf; exact zg_X10_measure_87 hE hk27 ih hf
set_option maxRecDepth 20000 in
theorem zg_X10_measure_27 {N : Nat} {sh : Sh} {r : Dt} {k27 : Nat → Nat → Int64 → Int64 → Int32 → Dt → Option Dt} {E : EV} (hE : TG E none (sh, r))  (hk27 : ∀ (l0 : Nat) (l2 : Nat) (l3 : Int64) (l5 : Int64) (l7 : Int32) (d : Dt), k27 l0 l2 l3 l5 l7 d = some r → Z E yX10_measure cX10_measure 13 none 4 (sh, d) 27 [(0, .ref l0), (2, .ref l2), (3, .long l3), (5, .long l5), (7, .int l7)] []) {l0 : Nat} {l2 : Nat} {l3 : Int64} {l5 : Int64} {l7 : Int32} {d : Dt} (hf : g_X10_measure_27 N sh k27 l0 l2 l3 l5 l7 d = some r) : Z E yX10_measure cX10_measure 13 none 4 (sh, d) 27 [(0, .ref l0), (2, .ref l2), (3, .long l3), (5, .long l5), (7, .int l7)] [] := by
  unfold g_X10_measure_27 at hf
  refine z_iload 4 dX10_measure_27 rfl ?_
  refine z_bipush 60 60 dX10_measure_29 (by decide) ?_
  refine z_icmp_ge 167 hf dX10_measure_31 (by decide) (fun hf => ?_) (fun hf => ?_)
  · refine z_lv [] [] rfl ?_
    exact zb_X10_measure_167 hE hf
  · refine z_lload_n 2 dX10_measure_34 rfl rfl ?_
    refine z_lconst 0 0 dX10_measure_35 (by decide) ?_
    refine z_lcmp dX10_measure_36 ?_
    refine z_if_eq 167 hf dX10_measure_37 (by decide) (fun hf => ?_) (fun hf => ?_)
    · refine z_lv [] [] rfl ?_
      exact zb_X10_measure_167 hE hf
    · refine z_aload_n 1 dX10_measure_40 rfl rfl ?_
      refine z_lload_n 2 dX10_measure_41 rfl rfl ?_
      obtain ⟨v5, ev5, hf⟩ := ob hf
      refine z_cTi (As := [.ref l2, .long l3]) (rest := []) (zm_X10_nearestOf ev5) (Or.inl rfl) mw_16_23 mw_17_0 mw_1_23 mw_17_1 yk_X10_nearestOf (by decide) (by decide) rfl (Nat.le_of_ble_eq_true rfl) rfl dX10_measure_42 ?_
      refine z_istore [(8, .int v5), (0, .ref l0), (2, .ref l2), (3, .long l3), (5, .long l5), (7, .int l7)] dX10_measure_45 (by decide) rfl ?_
      refine z_lload_n 3 dX10_measure_47 rfl rfl ?_
      refine z_lconst 1 1 dX10_measure_48 (by decide) ?_
      refine z_iload 0 dX10_measure_49 rfl ?_
      refine z_lshl dX10_measure_51 ?_
      refine z_lxor dX10_measure_52 ?_
      refine z_lstore_n [(3, .long (l3 ^^^ ((1 : Int64) <<< (v5.toInt64 &&& 63)))), (8, .int v5), (0, .ref l0), (2, .ref l2), (5, .long l5), (7, .int l7)] dX10_measure_53 rfl (by decide) rfl ?_
      refine z_lload 4 dX10_measure_54 rfl ?_
      refine z_lconst 1 1 dX10_measure_56 (by decide) ?_
      refine z_iload 1 dX10_measure_57 rfl ?_
      refine z_lshl dX10_measure_59 ?_
      refine z_lor dX10_measure_60 ?_
      refine z_lstore [(5, .long (l5 ||| ((1 : Int64) <<< (v5.toInt64 &&& 63)))), (3, .long (l3 ^^^ ((1 : Int64) <<< (v5.toInt64 &&& 63)))), (8, .int v5), (0, .ref l0), (2, .ref l2), (7, .int l7)] dX10_measure_61 (by decide) rfl ?_
      refine z_aload_n 3 dX10_measure_63 rfl rfl ?_
      refine z_gP (ci := 10) (k := 2) (C := RX10) (T := TX10) (N := 6) rfl inlX10 (by decide) mw_4_15 (fun _ _ _ _ h9 => h9) hf (by decide) rfl dX10_measure_64  (fun v6 hf => ?_)
      refine z_iload 2 dX10_measure_67 rfl ?_
      refine z_aJ hf dX10_measure_69  (fun v7 hf => ?_)
      refine z_lload 0 dX10_measure_70 rfl ?_
      refine z_ldc2 mw_16_1 dX10_measure_72 ?_
      refine z_lxor dX10_measure_75 ?_
      refine z_land dX10_measure_76 ?_
      refine z_lstore [(9, .long (v7 &&& ((l5 ||| ((1 : Int64) <<< (v5.toInt64 &&& 63))) ^^^ (-1 : Int64)))), (5, .long (l5 ||| ((1 : Int64) <<< (v5.toInt64 &&& 63)))), (3, .long (l3 ^^^ ((1 : Int64) <<< (v5.toInt64 &&& 63)))), (8, .int v5), (0, .ref l0), (2, .ref l2), (7, .int l7)] dX10_measure_77 (by decide) rfl ?_
      refine z_lload_n 2 dX10_measure_79 rfl rfl ?_
      refine z_lload 0 dX10_measure_80 rfl ?_
      refine z_lor dX10_measure_82 ?_
      refine z_lstore_n [(3, .long ((l3 ^^^ ((1 : Int64) <<< (v5.toInt64 &&& 63))) ||| (v7 &&& ((l5 ||| ((1 : Int64) <<< (v5.toInt64 &&& 63))) ^^^ (-1 : Int64))))), (9, .long (v7 &&& ((l5 ||| ((1 : Int64) <<< (v5.toInt64 &&& 63))) ^^^ (-1 : Int64)))), (5, .long (l5 ||| ((1 : Int64) <<< (v5.toInt64 &&& 63)))), (8, .int v5), (0, .ref l0), (2, .ref l2), (7, .int l7)] dX10_measure_83 rfl (by decide) rfl ?_
      refine z_iconst 0 0 dX10_measure_84 (by decide) ?_
      refine z_istore [(11, .int (0 : Int32)), (3, .long ((l3 ^^^ ((1 : Int64) <<< (v5.toInt64 &&& 63))) ||| (v7 &&& ((l5 ||| ((1 : Int64) <<< (v5.toInt64 &&& 63))) ^^^ (-1 : Int64))))), (9, .long (v7 &&& ((l5 ||| ((1 : Int64) <<< (v5.toInt64 &&& 63))) ^^^ (-1 : Int64)))), (5, .long (l5 ||| ((1 : Int64) <<< (v5.toInt64 &&& 63)))), (8, .int v5), (0, .ref l0), (2, .ref l2), (7, .int l7)] dX10_measure_85 (by decide) rfl ?_
      refine z_lv [(0, .ref l0), (2, .ref l2), (3, .long ((l3 ^^^ ((1 : Int64) <<< (v5.toInt64 &&& 63))) ||| (v7 &&& ((l5 ||| ((1 : Int64) <<< (v5.toInt64 &&& 63))) ^^^ (-1 : Int64))))), (5, .long (l5 ||| ((1 : Int64) <<< (v5.toInt64 &&& 63)))), (7, .int l7), (8, .int v5), (9, .long (v7 &&& ((l5 ||| ((1 : Int64) <<< (v5.toInt64 &&& 63))) ^^^ (-1 : Int64)))), (11, .int (0 : Int32))] [5, 6, 1, 3, 7, 4, 2, 0] rfl ?_
      exact zb_X10_measure_87 hE hk27 N _ _ _ _ _ _ _ _ _ hf
set_option maxRecDepth 20000 in
theorem zb_X10_measure_27 {N : Nat} {sh : Sh} {r : Dt} {E : EV} (hE : TG E none (sh, r))  : ∀ (n : Nat) (l0 : Nat) (l2 : Nat) (l3 : Int64) (l5 : Int64) (l7 : Int32) (d : Dt), f_X10_measure_27 N sh n l0 l2 l3 l5 l7 d = some r → Z E yX10_measure cX10_measure 13 none 4 (sh, d) 27 [(0, .ref l0), (2, .ref l2), (3, .long l3), (5, .long l5), (7, .int l7)] [] := by
  intro n
  induction n with
  | zero => intro l0 l2 l3 l5 l7 d hf; cases hf
  | succ n ih => intro l0 l2 l3 l5 l7 d hf; exact zg_X10_measure_27 hE ih hf
set_option maxRecDepth 20000 in
theorem zm_X10_measure {N : Nat} {sh : Sh} {d : Dt} {l0 : Nat} {l1 : Int32} {r : Dt} (hf : f_X10_measure N sh l0 l1 d = some r) : isO sh l0 10 ∧ ∀ (l : Launch) (G : GG), Mt l G yX10_measure cX10_measure 13 none 4 [.ref l0, .int l1] (sh, d) none (sh, r) := by
  have hf0 := hf
  unfold f_X10_measure at hf
  refine ite_d hf (fun hO hf => ?_) (fun _ hf => ?_)
  · refine ⟨hO, fun l G => mt_of (Or.inl (by decide)) (Nat.le_of_ble_eq_true rfl) Le.rf (fun E hE => ?_)⟩
    show Z E yX10_measure cX10_measure 13 none 4 (sh, d) 0 [(0, .ref l0), (1, .int l1)] []
    refine z_aload_n 0 dX10_measure_0 rfl rfl ?_
    refine z_gP (ci := 10) (k := 3) (C := RX10) (T := TX10) (N := 6) rfl inlX10 (by decide) mw_4_16 (fun _ _ _ _ h9 => h9) hf (by decide) rfl dX10_measure_1  (fun v1 hf => ?_)
    refine z_iload_n 1 dX10_measure_4 rfl rfl ?_
    refine z_aR hf dX10_measure_5  (fun v2 hf => ?_)
    refine z_astore_n [(2, .ref v2), (0, .ref l0), (1, .int l1)] dX10_measure_6 rfl (by decide) rfl ?_
    refine z_aload_n 0 dX10_measure_7 rfl rfl ?_
    refine z_ldc mw_16_21 dX10_measure_8 ?_
    obtain ⟨v3, ev3, hf⟩ := ob hf
    refine z_cTv (As := [.ref v2, .int (1000000000 : Int32)]) (rest := []) (zm_J7_fill_53178 ev3) (Or.inl rfl) mw_16_8 mw_4_6 mw_4_7 mw_4_8 yk_J7_fill_53178 (by decide) (by decide) rfl (Nat.le_of_ble_eq_true rfl) rfl dX10_measure_10 ?_
    refine z_aload_n 0 dX10_measure_13 rfl rfl ?_
    refine z_iload_n 2 dX10_measure_14 rfl rfl ?_
    refine z_iconst 0 0 dX10_measure_15 (by decide) ?_
    refine z_sI hf dX10_measure_16  (fun d4 hf => ?_)
    refine z_lconst 1 1 dX10_measure_17 (by decide) ?_
    refine z_iload_n 2 dX10_measure_18 rfl rfl ?_
    refine z_lshl dX10_measure_19 ?_
    refine z_lstore_n [(3, .long ((1 : Int64) <<< (l1.toInt64 &&& 63))), (2, .ref v2), (0, .ref l0), (1, .int l1)] dX10_measure_20 rfl (by decide) rfl ?_
    refine z_lconst 0 0 dX10_measure_21 (by decide) ?_
    refine z_lstore [(5, .long (0 : Int64)), (3, .long ((1 : Int64) <<< (l1.toInt64 &&& 63))), (2, .ref v2), (0, .ref l0), (1, .int l1)] dX10_measure_22 (by decide) rfl ?_
    refine z_iconst 0 0 dX10_measure_24 (by decide) ?_
    refine z_istore [(7, .int (0 : Int32)), (5, .long (0 : Int64)), (3, .long ((1 : Int64) <<< (l1.toInt64 &&& 63))), (2, .ref v2), (0, .ref l0), (1, .int l1)] dX10_measure_25 (by decide) rfl ?_
    refine z_lv [(0, .ref l0), (2, .ref v2), (3, .long ((1 : Int64) <<< (l1.toInt64 &&& 63))), (5, .long (0 : Int64)), (7, .int (0 : Int32))] [4, 3, 2, 1, 0] rfl ?_
    exact zb_X10_measure_27 hE N _ _ _ _ _ _ hf
  · cases hf
set_option maxRecDepth 20000 in
theorem zb_X10_offer_20 {N : Nat} {sh : Sh} {r : Dt} {E : EV} (hE : TG E none (sh, r))   {d : Dt} (hf : f_X10_offer_20 N sh  d = some r) : Z E yX10_offer cX10_offer 5 none 2 (sh, d) 20 [] [] := by
  unfold f_X10_offer_20 at hf
  cases hf
  exact z_return hE rfl dX10_offer_20
set_option maxRecDepth 20000 in
theorem zb_X10_offer_88 {N : Nat} {sh : Sh} {r : Dt} {E : EV} (hE : TG E none (sh, r))   {d : Dt} (hf : f_X10_offer_88 N sh  d = some r) : Z E yX10_offer cX10_offer 5 none 2 (sh, d) 88 [] [] := by
  unfold f_X10_offer_88 at hf
  cases hf
  exact z_return hE rfl dX10_offer_88
set_option maxRecDepth 20000 in
theorem zb_X10_offer_67 {N : Nat} {sh : Sh} {r : Dt} {E : EV} (hE : TG E none (sh, r))  {l0 : Nat} {l1 : Int32} {l2 : Int32} {l3 : Int32} {d : Dt} (hf : f_X10_offer_67 N sh l0 l1 l2 l3 d = some r) : Z E yX10_offer cX10_offer 5 none 2 (sh, d) 67 [(0, .ref l0), (1, .int l1), (2, .int l2), (3, .int l3)] [] := by
  unfold f_X10_offer_67 at hf
  refine z_aload_n 0 dX10_offer_67 rfl rfl ?_
  refine z_gP (ci := 10) (k := 1) (C := RX10) (T := TX10) (N := 6) rfl inlX10 (by decide) mw_4_14 (fun _ _ _ _ h9 => h9) hf (by decide) rfl dX10_offer_68  (fun v10 hf => ?_)
  refine z_iload_n 1 dX10_offer_71 rfl rfl ?_
  refine z_aR hf dX10_offer_72  (fun v11 hf => ?_)
  refine z_iload_n 2 dX10_offer_73 rfl rfl ?_
  refine z_iload_n 3 dX10_offer_74 rfl rfl ?_
  refine z_sI hf dX10_offer_75  (fun d12 hf => ?_)
  refine z_aload_n 0 dX10_offer_76 rfl rfl ?_
  refine z_gP (ci := 10) (k := 2) (C := RX10) (T := TX10) (N := 6) rfl inlX10 (by decide) mw_4_15 (fun _ _ _ _ h9 => h9) hf (by decide) rfl dX10_offer_77  (fun v13 hf => ?_)
  refine z_iload_n 2 dX10_offer_80 rfl rfl ?_
  refine z_dup2_11 dX10_offer_81 rfl rfl ?_
  refine z_aJ hf dX10_offer_82  (fun v14 hf => ?_)
  refine z_lconst 1 1 dX10_offer_83 (by decide) ?_
  refine z_iload_n 1 dX10_offer_84 rfl rfl ?_
  refine z_lshl dX10_offer_85 ?_
  refine z_lor dX10_offer_86 ?_
  refine z_sJ hf dX10_offer_87  (fun d15 hf => ?_)
  refine z_lv [] [] rfl ?_
  exact zb_X10_offer_88 hE hf
set_option maxRecDepth 20000 in
theorem zm_X10_offer {N : Nat} {sh : Sh} {d : Dt} {l0 : Nat} {l1 : Int32} {l2 : Int32} {l3 : Int32} {r : Dt} (hf : f_X10_offer N sh l0 l1 l2 l3 d = some r) : isO sh l0 10 ∧ ∀ (l : Launch) (G : GG), Mt l G yX10_offer cX10_offer 5 none 2 [.ref l0, .int l1, .int l2, .int l3] (sh, d) none (sh, r) := by
  have hf0 := hf
  unfold f_X10_offer at hf
  refine ite_d hf (fun hO hf => ?_) (fun _ hf => ?_)
  · refine ⟨hO, fun l G => mt_of (Or.inl (by decide)) (Nat.le_of_ble_eq_true rfl) Le.rf (fun E hE => ?_)⟩
    show Z E yX10_offer cX10_offer 5 none 2 (sh, d) 0 [(0, .ref l0), (1, .int l1), (2, .int l2), (3, .int l3)] []
    refine z_iload_n 1 dX10_offer_0 rfl rfl ?_
    refine z_if_lt 20 hf dX10_offer_1 (by decide) (fun hf => ?_) (fun hf => ?_)
    · refine z_lv [] [] rfl ?_
      exact zb_X10_offer_20 hE hf
    · refine z_iload_n 1 dX10_offer_4 rfl rfl ?_
      refine z_bipush 60 60 dX10_offer_5 (by decide) ?_
      refine z_icmp_ge 20 hf dX10_offer_7 (by decide) (fun hf => ?_) (fun hf => ?_)
      · refine z_lv [] [] rfl ?_
        exact zb_X10_offer_20 hE hf
      · refine z_iload_n 2 dX10_offer_10 rfl rfl ?_
        refine z_if_lt 20 hf dX10_offer_11 (by decide) (fun hf => ?_) (fun hf => ?_)
        · refine z_lv [] [] rfl ?_
          exact zb_X10_offer_20 hE hf
        · refine z_iload_n 2 dX10_offer_14 rfl rfl ?_
          refine z_bipush 60 60 dX10_offer_15 (by decide) ?_
          refine z_icmp_lt 21 hf dX10_offer_17 (by decide) (fun hf => ?_) (fun hf => ?_)
          · refine z_aload_n 0 dX10_offer_21 rfl rfl ?_
            refine z_gP (ci := 10) (k := 1) (C := RX10) (T := TX10) (N := 6) rfl inlX10 (by decide) mw_4_14 (fun _ _ _ _ h9 => h9) hf (by decide) rfl dX10_offer_22  (fun v1 hf => ?_)
            refine z_iload_n 1 dX10_offer_25 rfl rfl ?_
            refine z_aR hf dX10_offer_26  (fun v2 hf => ?_)
            refine z_iload_n 2 dX10_offer_27 rfl rfl ?_
            refine z_aI hf dX10_offer_28  (fun v3 hf => ?_)
            refine z_istore [(4, .int v3), (0, .ref l0), (1, .int l1), (2, .int l2), (3, .int l3)] dX10_offer_29 (by decide) rfl ?_
            refine z_iload 0 dX10_offer_31 rfl ?_
            refine z_iconst (-1) (-1) dX10_offer_33 (by decide) ?_
            refine z_icmp_eq 67 hf dX10_offer_34 (by decide) (fun hf => ?_) (fun hf => ?_)
            · refine z_lv [(0, .ref l0), (1, .int l1), (2, .int l2), (3, .int l3)] [1, 2, 3, 4] rfl ?_
              exact zb_X10_offer_67 hE hf
            · refine z_aload_n 1 dX10_offer_37 rfl rfl ?_
              refine z_gP (ci := 10) (k := 0) (C := RX10) (T := TX10) (N := 6) rfl inlX10 (by decide) mw_4_19 (fun _ _ _ _ h9 => h9) hf (by decide) rfl dX10_offer_38  (fun v4 hf => ?_)
              refine z_gP (ci := 1) (k := 1) (C := RX1) (T := TX1) (N := 8) rfl inlX1 (by decide) mw_16_6 (fun _ _ _ _ h9 => h9) hf (by decide) rfl dX10_offer_41  (fun v5 hf => ?_)
              refine z_iload_n 4 dX10_offer_44 rfl rfl ?_
              refine z_bipush 6 6 dX10_offer_45 (by decide) ?_
              obtain ⟨v6, ev6, hf⟩ := ob hf
              refine z_cVi (ci := 8) (T := TX8) (N := 2) (As := [.int l3, .int (6 : Int32)]) (rest := []) (zm_X8_get ev6).2 (zm_X8_get ev6).1 (by decide) rfl (Or.inl rfl) mw_16_12 mw_10_11 mw_10_12 mw_3_13 mw_10_13 yk_X8_get (by decide) (by decide) rfl (Nat.le_of_ble_eq_true rfl) rfl dX10_offer_47 ?_
              refine z_aload_n 1 dX10_offer_50 rfl rfl ?_
              refine z_gP (ci := 10) (k := 0) (C := RX10) (T := TX10) (N := 6) rfl inlX10 (by decide) mw_4_19 (fun _ _ _ _ h9 => h9) hf (by decide) rfl dX10_offer_51  (fun v7 hf => ?_)
              refine z_gP (ci := 1) (k := 1) (C := RX1) (T := TX1) (N := 8) rfl inlX1 (by decide) mw_16_6 (fun _ _ _ _ h9 => h9) hf (by decide) rfl dX10_offer_54  (fun v8 hf => ?_)
              refine z_iload 0 dX10_offer_57 rfl ?_
              refine z_bipush 6 6 dX10_offer_59 (by decide) ?_
              obtain ⟨v9, ev9, hf⟩ := ob hf
              refine z_cVi (ci := 8) (T := TX8) (N := 2) (As := [.int v3, .int (6 : Int32)]) (rest := [.int v6]) (zm_X8_get ev9).2 (zm_X8_get ev9).1 (by decide) rfl (Or.inl rfl) mw_16_12 mw_10_11 mw_10_12 mw_3_13 mw_10_13 yk_X8_get (by decide) (by decide) rfl (Nat.le_of_ble_eq_true rfl) rfl dX10_offer_61 ?_
              refine z_icmp_ge 88 hf dX10_offer_64 (by decide) (fun hf => ?_) (fun hf => ?_)
              · refine z_lv [] [] rfl ?_
                exact zb_X10_offer_88 hE hf
              · refine z_lv [(0, .ref l0), (1, .int l1), (2, .int l2), (3, .int l3)] [1, 2, 3, 4] rfl ?_
                exact zb_X10_offer_67 hE hf
          · refine z_lv [] [] rfl ?_
            exact zb_X10_offer_20 hE hf
  · cases hf
