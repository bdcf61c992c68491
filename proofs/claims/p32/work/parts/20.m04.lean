set_option maxRecDepth 20000 in
theorem zb_X12_near_40 {N : Nat} {sh : Sh} {d : Dt} {r : Int32} {E : EV} (hE : TG E (some (.int r)) (sh, d))   (hf : f_X12_near_40 N sh  d = some r) : Z E yX12_near cX12_near 10 (some .int) 3 (sh, d) 40 [] [] := by
  unfold f_X12_near_40 at hf
  refine z_iconst 2 2 dX12_near_40 (by decide) ?_
  cases hf
  exact z_ireturn hE rfl dX12_near_41
set_option maxRecDepth 20000 in
theorem zb_X12_near_214 {N : Nat} {sh : Sh} {d : Dt} {r : Int32} {E : EV} (hE : TG E (some (.int r)) (sh, d))  {t0 : Int32} (hf : f_X12_near_214 N sh t0 d = some r) : Z E yX12_near cX12_near 10 (some .int) 3 (sh, d) 214 [] [.int t0] := by
  unfold f_X12_near_214 at hf
  cases hf
  exact z_ireturn hE rfl dX12_near_214
set_option maxRecDepth 20000 in
theorem zb_X12_near_204 {N : Nat} {sh : Sh} {d : Dt} {r : Int32} {E : EV} (hE : TG E (some (.int r)) (sh, d))  {l5 : Int32} (hf : f_X12_near_204 N sh l5 d = some r) : Z E yX12_near cX12_near 10 (some .int) 3 (sh, d) 204 [(5, .int l5)] [] := by
  unfold f_X12_near_204 at hf
  refine z_iload 0 dX12_near_204 rfl ?_
  refine z_if_eq 213 hf dX12_near_206 (by decide) (fun hf => ?_) (fun hf => ?_)
  · refine z_iconst 0 0 dX12_near_213 (by decide) ?_
    refine z_lv [] [] rfl ?_
    exact zb_X12_near_214 hE hf
  · refine z_iconst 1 1 dX12_near_209 (by decide) ?_
    refine z_goto 214 dX12_near_210 (by decide) ?_
    refine z_lv [] [] rfl ?_
    exact zb_X12_near_214 hE hf
set_option maxRecDepth 20000 in
theorem zb_X12_near_196 {N : Nat} {sh : Sh} {d : Dt} {k48 : Nat → Int32 → Int32 → Int32 → Int32 → Int32 → Option Int32} {r : Int32} {E : EV} (hE : TG E (some (.int r)) (sh, d)) (hk48 : ∀ (l0 : Nat) (l1 : Int32) (l3 : Int32) (l4 : Int32) (l5 : Int32) (l6 : Int32), k48 l0 l1 l3 l4 l5 l6 = some r → Z E yX12_near cX12_near 10 (some .int) 3 (sh, d) 48 [(0, .ref l0), (1, .int l1), (3, .int l3), (4, .int l4), (5, .int l5), (6, .int l6)] []) {l0 : Nat} {l1 : Int32} {l3 : Int32} {l4 : Int32} {l6 : Int32} {t0 : Int32} (hf : f_X12_near_196 N sh k48 l0 l1 l3 l4 l6 t0 d = some r) : Z E yX12_near cX12_near 10 (some .int) 3 (sh, d) 196 [(0, .ref l0), (1, .int l1), (3, .int l3), (4, .int l4), (6, .int l6)] [.int t0] := by
  unfold f_X12_near_196 at hf
  refine z_istore [(5, .int t0), (0, .ref l0), (1, .int l1), (3, .int l3), (4, .int l4), (6, .int l6)] dX12_near_196 (by decide) rfl ?_
  refine z_iinc [(6, .int (l6 + 1)), (5, .int t0), (0, .ref l0), (1, .int l1), (3, .int l3), (4, .int l4)] 5 (l6 + 1) dX12_near_198 rfl rfl (by decide) rfl ?_
  refine z_goto 48 dX12_near_201 (by decide) ?_
  refine z_lv [(0, .ref l0), (1, .int l1), (3, .int l3), (4, .int l4), (5, .int t0), (6, .int (l6 + 1))] [2, 3, 4, 5, 1, 0] rfl ?_
  exact hk48 _ _ _ _ _ _ hf
set_option maxRecDepth 20000 in
theorem zb_X12_near_195 {N : Nat} {sh : Sh} {d : Dt} {k48 : Nat → Int32 → Int32 → Int32 → Int32 → Int32 → Option Int32} {r : Int32} {E : EV} (hE : TG E (some (.int r)) (sh, d)) (hk48 : ∀ (l0 : Nat) (l1 : Int32) (l3 : Int32) (l4 : Int32) (l5 : Int32) (l6 : Int32), k48 l0 l1 l3 l4 l5 l6 = some r → Z E yX12_near cX12_near 10 (some .int) 3 (sh, d) 48 [(0, .ref l0), (1, .int l1), (3, .int l3), (4, .int l4), (5, .int l5), (6, .int l6)] []) {l0 : Nat} {l1 : Int32} {l3 : Int32} {l4 : Int32} {l6 : Int32} (hf : f_X12_near_195 N sh k48 l0 l1 l3 l4 l6 d = some r) : Z E yX12_near cX12_near 10 (some .int) 3 (sh, d) 195 [(0, .ref l0), (1, .int l1), (3, .int l3), (4, .int l4), (6, .int l6)] [] := by
  unfold f_X12_near_195 at hf
  refine z_iconst 0 0 dX12_near_195 (by decide) ?_
  exact zb_X12_near_196 hE hk48 hf
set_option maxRecDepth 20000 in
theorem zb_X12_near_191 {N : Nat} {sh : Sh} {d : Dt} {k48 : Nat → Int32 → Int32 → Int32 → Int32 → Int32 → Option Int32} {r : Int32} {E : EV} (hE : TG E (some (.int r)) (sh, d)) (hk48 : ∀ (l0 : Nat) (l1 : Int32) (l3 : Int32) (l4 : Int32) (l5 : Int32) (l6 : Int32), k48 l0 l1 l3 l4 l5 l6 = some r → Z E yX12_near cX12_near 10 (some .int) 3 (sh, d) 48 [(0, .ref l0), (1, .int l1), (3, .int l3), (4, .int l4), (5, .int l5), (6, .int l6)] []) {l0 : Nat} {l1 : Int32} {l3 : Int32} {l4 : Int32} {l6 : Int32} (hf : f_X12_near_191 N sh k48 l0 l1 l3 l4 l6 d = some r) : Z E yX12_near cX12_near 10 (some .int) 3 (sh, d) 191 [(0, .ref l0), (1, .int l1), (3, .int l3), (4, .int l4), (6, .int l6)] [] := by
  unfold f_X12_near_191 at hf
  refine z_iconst 1 1 dX12_near_191 (by decide) ?_
  refine z_goto 196 dX12_near_192 (by decide) ?_
  exact zb_X12_near_196 hE hk48 hf
set_option maxRecDepth 20000 in
theorem zb_X12_near_170 {N : Nat} {sh : Sh} {d : Dt} {k48 : Nat → Int32 → Int32 → Int32 → Int32 → Int32 → Option Int32} {r : Int32} {E : EV} (hE : TG E (some (.int r)) (sh, d)) (hk48 : ∀ (l0 : Nat) (l1 : Int32) (l3 : Int32) (l4 : Int32) (l5 : Int32) (l6 : Int32), k48 l0 l1 l3 l4 l5 l6 = some r → Z E yX12_near cX12_near 10 (some .int) 3 (sh, d) 48 [(0, .ref l0), (1, .int l1), (3, .int l3), (4, .int l4), (5, .int l5), (6, .int l6)] []) {l0 : Nat} {l1 : Int32} {l3 : Int32} {l4 : Int32} {l6 : Int32} {l8 : Int32} {t0 : Int32} (hf : f_X12_near_170 N sh k48 l0 l1 l3 l4 l6 l8 t0 d = some r) : Z E yX12_near cX12_near 10 (some .int) 3 (sh, d) 170 [(0, .ref l0), (1, .int l1), (3, .int l3), (4, .int l4), (6, .int l6), (8, .int l8)] [.int t0] := by
  unfold f_X12_near_170 at hf
  refine z_istore [(9, .int t0), (0, .ref l0), (1, .int l1), (3, .int l3), (4, .int l4), (6, .int l6), (8, .int l8)] dX12_near_170 (by decide) rfl ?_
  refine z_aload_n 1 dX12_near_172 rfl rfl ?_
  refine z_iload 5 dX12_near_173 rfl ?_
  obtain ⟨v22, ev22, hf⟩ := ob hf
  refine z_cVi (ci := 12) (T := TX12) (N := 32) (As := [.int l6]) (rest := []) (zm_X12_isOpen ev22).2 (zm_X12_isOpen ev22).1 (by decide) rfl (Or.inl rfl) mw_18_4 mw_18_5 mw_18_6 mw_1_5 mw_18_7 yk_X12_isOpen (by decide) (by decide) rfl (Nat.le_of_ble_eq_true rfl) rfl dX12_near_175 ?_
  refine z_if_eq 195 hf dX12_near_178 (by decide) (fun hf => ?_) (fun hf => ?_)
  · refine z_lv [(0, .ref l0), (1, .int l1), (3, .int l3), (4, .int l4), (6, .int l6)] [1, 2, 3, 4, 5] rfl ?_
    exact zb_X12_near_195 hE hk48 hf
  · refine z_iload 6 dX12_near_181 rfl ?_
    refine z_if_ne 191 hf dX12_near_183 (by decide) (fun hf => ?_) (fun hf => ?_)
    · refine z_lv [(0, .ref l0), (1, .int l1), (3, .int l3), (4, .int l4), (6, .int l6)] [1, 2, 3, 4, 5] rfl ?_
      exact zb_X12_near_191 hE hk48 hf
    · refine z_iload 0 dX12_near_186 rfl ?_
      refine z_if_eq 195 hf dX12_near_188 (by decide) (fun hf => ?_) (fun hf => ?_)
      · refine z_lv [(0, .ref l0), (1, .int l1), (3, .int l3), (4, .int l4), (6, .int l6)] [1, 2, 3, 4, 5] rfl ?_
        exact zb_X12_near_195 hE hk48 hf
      · refine z_lv [(0, .ref l0), (1, .int l1), (3, .int l3), (4, .int l4), (6, .int l6)] [1, 2, 3, 4, 5] rfl ?_
        exact zb_X12_near_191 hE hk48 hf
set_option maxRecDepth 20000 in
theorem zb_X12_near_169 {N : Nat} {sh : Sh} {d : Dt} {k48 : Nat → Int32 → Int32 → Int32 → Int32 → Int32 → Option Int32} {r : Int32} {E : EV} (hE : TG E (some (.int r)) (sh, d)) (hk48 : ∀ (l0 : Nat) (l1 : Int32) (l3 : Int32) (l4 : Int32) (l5 : Int32) (l6 : Int32), k48 l0 l1 l3 l4 l5 l6 = some r → Z E yX12_near cX12_near 10 (some .int) 3 (sh, d) 48 [(0, .ref l0), (1, .int l1), (3, .int l3), (4, .int l4), (5, .int l5), (6, .int l6)] []) {l0 : Nat} {l1 : Int32} {l3 : Int32} {l4 : Int32} {l6 : Int32} {l8 : Int32} (hf : f_X12_near_169 N sh k48 l0 l1 l3 l4 l6 l8 d = some r) : Z E yX12_near cX12_near 10 (some .int) 3 (sh, d) 169 [(0, .ref l0), (1, .int l1), (3, .int l3), (4, .int l4), (6, .int l6), (8, .int l8)] [] := by
  unfold f_X12_near_169 at hf
  refine z_iconst 0 0 dX12_near_169 (by decide) ?_
  exact zb_X12_near_170 hE hk48 hf
set_option maxRecDepth 20000 in
theorem zb_X12_near_165 {N : Nat} {sh : Sh} {d : Dt} {k48 : Nat → Int32 → Int32 → Int32 → Int32 → Int32 → Option Int32} {r : Int32} {E : EV} (hE : TG E (some (.int r)) (sh, d)) (hk48 : ∀ (l0 : Nat) (l1 : Int32) (l3 : Int32) (l4 : Int32) (l5 : Int32) (l6 : Int32), k48 l0 l1 l3 l4 l5 l6 = some r → Z E yX12_near cX12_near 10 (some .int) 3 (sh, d) 48 [(0, .ref l0), (1, .int l1), (3, .int l3), (4, .int l4), (5, .int l5), (6, .int l6)] []) {l0 : Nat} {l1 : Int32} {l3 : Int32} {l4 : Int32} {l6 : Int32} {l8 : Int32} (hf : f_X12_near_165 N sh k48 l0 l1 l3 l4 l6 l8 d = some r) : Z E yX12_near cX12_near 10 (some .int) 3 (sh, d) 165 [(0, .ref l0), (1, .int l1), (3, .int l3), (4, .int l4), (6, .int l6), (8, .int l8)] [] := by
  unfold f_X12_near_165 at hf
  refine z_iconst 1 1 dX12_near_165 (by decide) ?_
  refine z_goto 170 dX12_near_166 (by decide) ?_
  exact zb_X12_near_170 hE hk48 hf
set_option maxRecDepth 20000 in
theorem zb_X12_near_120 {N : Nat} {sh : Sh} {d : Dt} {k48 : Nat → Int32 → Int32 → Int32 → Int32 → Int32 → Option Int32} {r : Int32} {E : EV} (hE : TG E (some (.int r)) (sh, d)) (hk48 : ∀ (l0 : Nat) (l1 : Int32) (l3 : Int32) (l4 : Int32) (l5 : Int32) (l6 : Int32), k48 l0 l1 l3 l4 l5 l6 = some r → Z E yX12_near cX12_near 10 (some .int) 3 (sh, d) 48 [(0, .ref l0), (1, .int l1), (3, .int l3), (4, .int l4), (5, .int l5), (6, .int l6)] []) {l0 : Nat} {l1 : Int32} {l3 : Int32} {l4 : Int32} {l6 : Int32} {l7 : Int32} {t0 : Int32} (hf : f_X12_near_120 N sh k48 l0 l1 l3 l4 l6 l7 t0 d = some r) : Z E yX12_near cX12_near 10 (some .int) 3 (sh, d) 120 [(0, .ref l0), (1, .int l1), (3, .int l3), (4, .int l4), (6, .int l6), (7, .int l7)] [.int t0] := by
  unfold f_X12_near_120 at hf
  refine z_istore [(8, .int t0), (0, .ref l0), (1, .int l1), (3, .int l3), (4, .int l4), (6, .int l6), (7, .int l7)] dX12_near_120 (by decide) rfl ?_
  refine z_aload_n 1 dX12_near_122 rfl rfl ?_
  refine z_gP (ci := 12) (k := 0) (C := RX12) (T := TX12) (N := 32) rfl inlX12 (by decide) mw_6_19 (fun _ _ _ _ h9 => h9) hf (by decide) rfl dX12_near_123  (fun v16 hf => ?_)
  refine z_iload 6 dX12_near_126 rfl ?_
  refine z_bipush 8 8 dX12_near_128 (by decide) ?_
  refine z_iadd dX12_near_130 ?_
  refine z_aI hf dX12_near_131  (fun v17 hf => ?_)
  refine z_iload_n 2 dX12_near_132 rfl rfl ?_
  refine z_icmp_ne 169 hf dX12_near_133 (by decide) (fun hf => ?_) (fun hf => ?_)
  · refine z_lv [(0, .ref l0), (1, .int l1), (3, .int l3), (4, .int l4), (6, .int l6), (8, .int t0)] [1, 2, 3, 4, 5, 0] rfl ?_
    exact zb_X12_near_169 hE hk48 hf
  · refine z_aload_n 1 dX12_near_136 rfl rfl ?_
    refine z_gP (ci := 12) (k := 0) (C := RX12) (T := TX12) (N := 32) rfl inlX12 (by decide) mw_6_19 (fun _ _ _ _ h9 => h9) hf (by decide) rfl dX12_near_137  (fun v18 hf => ?_)
    refine z_iload 6 dX12_near_140 rfl ?_
    refine z_bipush 7 7 dX12_near_142 (by decide) ?_
    refine z_iadd dX12_near_144 ?_
    refine z_aI hf dX12_near_145  (fun v19 hf => ?_)
    refine z_iload_n 3 dX12_near_146 rfl rfl ?_
    refine z_icmp_eq 165 hf dX12_near_147 (by decide) (fun hf => ?_) (fun hf => ?_)
    · refine z_lv [(0, .ref l0), (1, .int l1), (3, .int l3), (4, .int l4), (6, .int l6), (8, .int t0)] [1, 2, 3, 4, 5, 0] rfl ?_
      exact zb_X12_near_165 hE hk48 hf
    · refine z_aload_n 1 dX12_near_150 rfl rfl ?_
      refine z_gP (ci := 12) (k := 0) (C := RX12) (T := TX12) (N := 32) rfl inlX12 (by decide) mw_6_19 (fun _ _ _ _ h9 => h9) hf (by decide) rfl dX12_near_151  (fun v20 hf => ?_)
      refine z_iload 6 dX12_near_154 rfl ?_
      refine z_bipush 7 7 dX12_near_156 (by decide) ?_
      refine z_iadd dX12_near_158 ?_
      refine z_aI hf dX12_near_159  (fun v21 hf => ?_)
      refine z_iload 4 dX12_near_160 rfl ?_
      refine z_icmp_ne 169 hf dX12_near_162 (by decide) (fun hf => ?_) (fun hf => ?_)
      · refine z_lv [(0, .ref l0), (1, .int l1), (3, .int l3), (4, .int l4), (6, .int l6), (8, .int t0)] [1, 2, 3, 4, 5, 0] rfl ?_
        exact zb_X12_near_169 hE hk48 hf
      · refine z_lv [(0, .ref l0), (1, .int l1), (3, .int l3), (4, .int l4), (6, .int l6), (8, .int t0)] [1, 2, 3, 4, 5, 0] rfl ?_
        exact zb_X12_near_165 hE hk48 hf
set_option maxRecDepth 20000 in
theorem zb_X12_near_119 {N : Nat} {sh : Sh} {d : Dt} {k48 : Nat → Int32 → Int32 → Int32 → Int32 → Int32 → Option Int32} {r : Int32} {E : EV} (hE : TG E (some (.int r)) (sh, d)) (hk48 : ∀ (l0 : Nat) (l1 : Int32) (l3 : Int32) (l4 : Int32) (l5 : Int32) (l6 : Int32), k48 l0 l1 l3 l4 l5 l6 = some r → Z E yX12_near cX12_near 10 (some .int) 3 (sh, d) 48 [(0, .ref l0), (1, .int l1), (3, .int l3), (4, .int l4), (5, .int l5), (6, .int l6)] []) {l0 : Nat} {l1 : Int32} {l3 : Int32} {l4 : Int32} {l6 : Int32} {l7 : Int32} (hf : f_X12_near_119 N sh k48 l0 l1 l3 l4 l6 l7 d = some r) : Z E yX12_near cX12_near 10 (some .int) 3 (sh, d) 119 [(0, .ref l0), (1, .int l1), (3, .int l3), (4, .int l4), (6, .int l6), (7, .int l7)] [] := by
  unfold f_X12_near_119 at hf
  refine z_iconst 0 0 dX12_near_119 (by decide) ?_
  exact zb_X12_near_120 hE hk48 hf
set_option maxRecDepth 20000 in
theorem zb_X12_near_115 {N : Nat} {sh : Sh} {d : Dt} {k48 : Nat → Int32 → Int32 → Int32 → Int32 → Int32 → Option Int32} {r : Int32} {E : EV} (hE : TG E (some (.int r)) (sh, d)) (hk48 : ∀ (l0 : Nat) (l1 : Int32) (l3 : Int32) (l4 : Int32) (l5 : Int32) (l6 : Int32), k48 l0 l1 l3 l4 l5 l6 = some r → Z E yX12_near cX12_near 10 (some .int) 3 (sh, d) 48 [(0, .ref l0), (1, .int l1), (3, .int l3), (4, .int l4), (5, .int l5), (6, .int l6)] []) {l0 : Nat} {l1 : Int32} {l3 : Int32} {l4 : Int32} {l6 : Int32} {l7 : Int32} (hf : f_X12_near_115 N sh k48 l0 l1 l3 l4 l6 l7 d = some r) : Z E yX12_near cX12_near 10 (some .int) 3 (sh, d) 115 [(0, .ref l0), (1, .int l1), (3, .int l3), (4, .int l4), (6, .int l6), (7, .int l7)] [] := by
  unfold f_X12_near_115 at hf
  refine z_iconst 1 1 dX12_near_115 (by decide) ?_
  refine z_goto 120 dX12_near_116 (by decide) ?_
  exact zb_X12_near_120 hE hk48 hf
set_option maxRecDepth 20000 in
theorem zg_X12_near_48 {N : Nat} {sh : Sh} {d : Dt} {r : Int32} {k48 : Nat → Int32 → Int32 → Int32 → Int32 → Int32 → Option Int32} {E : EV} (hE : TG E (some (.int r)) (sh, d))  (hk48 : ∀ (l0 : Nat) (l1 : Int32) (l3 : Int32) (l4 : Int32) (l5 : Int32) (l6 : Int32), k48 l0 l1 l3 l4 l5 l6 = some r → Z E yX12_near cX12_near 10 (some .int) 3 (sh, d) 48 [(0, .ref l0), (1, .int l1), (3, .int l3), (4, .int l4), (5, .int l5), (6, .int l6)] []) {l0 : Nat} {l1 : Int32} {l3 : Int32} {l4 : Int32} {l5 : Int32} {l6 : Int32} (hf : g_X12_near_48 N sh k48 l0 l1 l3 l4 l5 l6 d = some r) : Z E yX12_near cX12_near 10 (some .int) 3 (sh, d) 48 [(0, .ref l0), (1, .int l1), (3, .int l3), (4, .int l4), (5, .int l5), (6, .int l6)] [] := by
  unfold g_X12_near_48 at hf
  refine z_iload 5 dX12_near_48 rfl ?_
  refine z_aload_n 0 dX12_near_50 rfl rfl ?_
  refine z_gP (ci := 12) (k := 0) (C := RX12) (T := TX12) (N := 32) rfl inlX12 (by decide) mw_6_19 (fun _ _ _ _ h9 => h9) hf (by decide) rfl dX12_near_51  (fun v7 hf => ?_)
  refine z_iconst 1 1 dX12_near_54 (by decide) ?_
  refine z_aI hf dX12_near_55  (fun v8 hf => ?_)
  refine z_icmp_ge 204 hf dX12_near_56 (by decide) (fun hf => ?_) (fun hf => ?_)
  · refine z_lv [(5, .int l5)] [4] rfl ?_
    exact zb_X12_near_204 hE hf
  · refine z_iload 4 dX12_near_59 rfl ?_
    refine z_if_ne 204 hf dX12_near_61 (by decide) (fun hf => ?_) (fun hf => ?_)
    · refine z_lv [(5, .int l5)] [4] rfl ?_
      exact zb_X12_near_204 hE hf
    · refine z_aload_n 0 dX12_near_64 rfl rfl ?_
      refine z_iload 5 dX12_near_65 rfl ?_
      obtain ⟨v9, ev9, hf⟩ := ob hf
      refine z_cVi (ci := 12) (T := TX12) (N := 32) (As := [.int l6]) (rest := []) (zm_X12_st ev9).2 (zm_X12_st ev9).1 (by decide) rfl (Or.inl rfl) mw_13_10 mw_13_11 mw_13_12 mw_1_5 mw_13_13 yk_X12_st (by decide) (by decide) rfl (Nat.le_of_ble_eq_true rfl) rfl dX12_near_67 ?_
      refine z_istore [(7, .int v9), (0, .ref l0), (1, .int l1), (3, .int l3), (4, .int l4), (5, .int l5), (6, .int l6)] dX12_near_70 (by decide) rfl ?_
      refine z_aload_n 1 dX12_near_72 rfl rfl ?_
      refine z_gP (ci := 12) (k := 0) (C := RX12) (T := TX12) (N := 32) rfl inlX12 (by decide) mw_6_19 (fun _ _ _ _ h9 => h9) hf (by decide) rfl dX12_near_73  (fun v10 hf => ?_)
      refine z_iload 0 dX12_near_76 rfl ?_
      refine z_bipush 7 7 dX12_near_78 (by decide) ?_
      refine z_iadd dX12_near_80 ?_
      refine z_aI hf dX12_near_81  (fun v11 hf => ?_)
      refine z_iload_n 2 dX12_near_82 rfl rfl ?_
      refine z_icmp_ne 119 hf dX12_near_83 (by decide) (fun hf => ?_) (fun hf => ?_)
      · refine z_lv [(0, .ref l0), (1, .int l1), (3, .int l3), (4, .int l4), (6, .int l6), (7, .int v9)] [1, 2, 3, 4, 6, 0] rfl ?_
        exact zb_X12_near_119 hE hk48 hf
      · refine z_aload_n 1 dX12_near_86 rfl rfl ?_
        refine z_gP (ci := 12) (k := 0) (C := RX12) (T := TX12) (N := 32) rfl inlX12 (by decide) mw_6_19 (fun _ _ _ _ h9 => h9) hf (by decide) rfl dX12_near_87  (fun v12 hf => ?_)
        refine z_iload 0 dX12_near_90 rfl ?_
        refine z_bipush 8 8 dX12_near_92 (by decide) ?_
        refine z_iadd dX12_near_94 ?_
        refine z_aI hf dX12_near_95  (fun v13 hf => ?_)
        refine z_iload_n 3 dX12_near_96 rfl rfl ?_
        refine z_icmp_eq 115 hf dX12_near_97 (by decide) (fun hf => ?_) (fun hf => ?_)
        · refine z_lv [(0, .ref l0), (1, .int l1), (3, .int l3), (4, .int l4), (6, .int l6), (7, .int v9)] [1, 2, 3, 4, 6, 0] rfl ?_
          exact zb_X12_near_115 hE hk48 hf
        · refine z_aload_n 1 dX12_near_100 rfl rfl ?_
          refine z_gP (ci := 12) (k := 0) (C := RX12) (T := TX12) (N := 32) rfl inlX12 (by decide) mw_6_19 (fun _ _ _ _ h9 => h9) hf (by decide) rfl dX12_near_101  (fun v14 hf => ?_)
          refine z_iload 0 dX12_near_104 rfl ?_
          refine z_bipush 8 8 dX12_near_106 (by decide) ?_
          refine z_iadd dX12_near_108 ?_
          refine z_aI hf dX12_near_109  (fun v15 hf => ?_)
          refine z_iload 4 dX12_near_110 rfl ?_
          refine z_icmp_ne 119 hf dX12_near_112 (by decide) (fun hf => ?_) (fun hf => ?_)
          · refine z_lv [(0, .ref l0), (1, .int l1), (3, .int l3), (4, .int l4), (6, .int l6), (7, .int v9)] [1, 2, 3, 4, 6, 0] rfl ?_
            exact zb_X12_near_119 hE hk48 hf
          · refine z_lv [(0, .ref l0), (1, .int l1), (3, .int l3), (4, .int l4), (6, .int l6), (7, .int v9)] [1, 2, 3, 4, 6, 0] rfl ?_
            exact zb_X12_near_115 hE hk48 hf
set_option maxRecDepth 20000 in
theorem zb_X12_near_48 {N : Nat} {sh : Sh} {d : Dt} {r : Int32} {E : EV} (hE : TG E (some (.int r)) (sh, d))  : ∀ (n : Nat) (l0 : Nat) (l1 : Int32) (l3 : Int32) (l4 : Int32) (l5 : Int32) (l6 : Int32), f_X12_near_48 N sh d n l0 l1 l3 l4 l5 l6 = some r → Z E yX12_near cX12_near 10 (some .int) 3 (sh, d) 48 [(0, .ref l0), (1, .int l1), (3, .int l3), (4, .int l4), (5, .int l5), (6, .int l6)] [] := by
  intro n
  induction n with
  | zero => intro l0 l1 l3 l4 l5 l6 hf; cases hf
  | succ n ih => intro l0 l1 l3 l4 l5 l6 hf; exact zg_X12_near_48 hE ih hf
set_option maxRecDepth 20000 in
theorem zm_X12_near {N : Nat} {sh : Sh} {d : Dt} {l0 : Nat} {l1 : Int32} {l2 : Int32} {r : Int32} (hf : f_X12_near N sh l0 l1 l2 d = some r) : isO sh l0 12 ∧ ∀ (l : Launch) (G : GG), Mt l G yX12_near cX12_near 10 (some .int) 3 [.ref l0, .int l1, .int l2] (sh, d) (some (.int r)) (sh, d) := by
  have hf0 := hf
  unfold f_X12_near at hf
  refine ite_d hf (fun hO hf => ?_) (fun _ hf => ?_)
  · refine ⟨hO, fun l G => mt_of (Or.inl (by decide)) (Nat.le_of_ble_eq_true rfl) Le.rf (fun E hE => ?_)⟩
    show Z E yX12_near cX12_near 10 (some .int) 3 (sh, d) 0 [(0, .ref l0), (1, .int l1), (2, .int l2)] []
    refine z_aload_n 0 dX12_near_0 rfl rfl ?_
    refine z_gP (ci := 12) (k := 0) (C := RX12) (T := TX12) (N := 32) rfl inlX12 (by decide) mw_6_19 (fun _ _ _ _ h9 => h9) hf (by decide) rfl dX12_near_1  (fun v1 hf => ?_)
    refine z_aload_n 0 dX12_near_4 rfl rfl ?_
    refine z_iload_n 2 dX12_near_5 rfl rfl ?_
    obtain ⟨v2, ev2, hf⟩ := ob hf
    refine z_cVi (ci := 12) (T := TX12) (N := 32) (As := [.int l2]) (rest := [.ref v1]) (zm_X12_st ev2).2 (zm_X12_st ev2).1 (by decide) rfl (Or.inl rfl) mw_13_10 mw_13_11 mw_13_12 mw_1_5 mw_13_13 yk_X12_st (by decide) (by decide) rfl (Nat.le_of_ble_eq_true rfl) rfl dX12_near_6 ?_
    refine z_bipush 7 7 dX12_near_9 (by decide) ?_
    refine z_iadd dX12_near_11 ?_
    refine z_aI hf dX12_near_12  (fun v3 hf => ?_)
    refine z_istore_n [(3, .int v3), (0, .ref l0), (1, .int l1), (2, .int l2)] dX12_near_13 rfl (by decide) rfl ?_
    refine z_aload_n 1 dX12_near_14 rfl rfl ?_
    refine z_gP (ci := 12) (k := 0) (C := RX12) (T := TX12) (N := 32) rfl inlX12 (by decide) mw_6_19 (fun _ _ _ _ h9 => h9) hf (by decide) rfl dX12_near_15  (fun v4 hf => ?_)
    refine z_aload_n 1 dX12_near_18 rfl rfl ?_
    refine z_iload_n 3 dX12_near_19 rfl rfl ?_
    obtain ⟨v5, ev5, hf⟩ := ob hf
    refine z_cVi (ci := 12) (T := TX12) (N := 32) (As := [.int l2]) (rest := [.ref v4]) (zm_X12_st ev5).2 (zm_X12_st ev5).1 (by decide) rfl (Or.inl rfl) mw_13_10 mw_13_11 mw_13_12 mw_1_5 mw_13_13 yk_X12_st (by decide) (by decide) rfl (Nat.le_of_ble_eq_true rfl) rfl dX12_near_20 ?_
    refine z_bipush 8 8 dX12_near_23 (by decide) ?_
    refine z_iadd dX12_near_25 ?_
    refine z_aI hf dX12_near_26  (fun v6 hf => ?_)
    refine z_istore [(4, .int v6), (3, .int v3), (0, .ref l0), (1, .int l1), (2, .int l2)] dX12_near_27 (by decide) rfl ?_
    refine z_iload_n 3 dX12_near_29 rfl rfl ?_
    refine z_iload_n 1 dX12_near_30 rfl rfl ?_
    refine z_icmp_eq 40 hf dX12_near_31 (by decide) (fun hf => ?_) (fun hf => ?_)
    · refine z_lv [] [] rfl ?_
      exact zb_X12_near_40 hE hf
    · refine z_iload_n 3 dX12_near_34 rfl rfl ?_
      refine z_iload 0 dX12_near_35 rfl ?_
      refine z_icmp_ne 42 hf dX12_near_37 (by decide) (fun hf => ?_) (fun hf => ?_)
      · refine z_iconst 0 0 dX12_near_42 (by decide) ?_
        refine z_istore [(5, .int (0 : Int32)), (4, .int v6), (3, .int v3), (0, .ref l0), (1, .int l1), (2, .int l2)] dX12_near_43 (by decide) rfl ?_
        refine z_iconst 0 0 dX12_near_45 (by decide) ?_
        refine z_istore [(6, .int (0 : Int32)), (5, .int (0 : Int32)), (4, .int v6), (3, .int v3), (0, .ref l0), (1, .int l1), (2, .int l2)] dX12_near_46 (by decide) rfl ?_
        refine z_lv [(0, .ref l0), (1, .int l1), (3, .int v3), (4, .int v6), (5, .int (0 : Int32)), (6, .int (0 : Int32))] [4, 5, 3, 2, 1, 0] rfl ?_
        exact zb_X12_near_48 hE N _ _ _ _ _ _ hf
      · refine z_lv [] [] rfl ?_
        exact zb_X12_near_40 hE hf
  · cases hf
set_option maxRecDepth 20000 in
theorem zm_X12_writes {N : Nat} {sh : Sh} {d : Dt} {l0 : Nat} {l1 : Int32} {l2 : Int32} {l3 : Int32} {l4 : Int32} {r : Int32 × Dt} (hf : f_X12_writes N sh l0 l1 l2 l3 l4 d = some r) : isO sh l0 12 ∧ ∀ (l : Launch) (G : GG), Mt l G yX12_writes cX12_writes 6 (some .int) 3 [.ref l0, .int l1, .int l2, .int l3, .int l4] (sh, d) (some (.int r.1)) (sh, r.2) := by
  have hf0 := hf
  unfold f_X12_writes at hf
  refine ite_d hf (fun hO hf => ?_) (fun _ hf => ?_)
  · refine ⟨hO, fun l G => mt_of (Or.inl (by decide)) (Nat.le_of_ble_eq_true rfl) Le.rf (fun E hE => ?_)⟩
    show Z E yX12_writes cX12_writes 6 (some .int) 3 (sh, d) 0 [(0, .ref l0), (1, .int l1), (2, .int l2), (3, .int l3), (4, .int l4)] []
    refine z_aload_n 0 dX12_writes_0 rfl rfl ?_
    refine z_iload_n 1 dX12_writes_1 rfl rfl ?_
    refine z_iload_n 2 dX12_writes_2 rfl rfl ?_
    obtain ⟨v1, ev1, hf⟩ := ob hf
    refine z_cVi (ci := 12) (T := TX12) (N := 32) (As := [.int l1, .int l2]) (rest := []) (zm_X12_bars ev1).2 (zm_X12_bars ev1).1 (by decide) rfl (Or.inl rfl) mw_23_8 mw_23_9 mw_23_10 mw_1_5 mw_23_11 yk_X12_bars (by decide) (by decide) rfl (Nat.le_of_ble_eq_true rfl) rfl dX12_writes_3 ?_
    refine z_istore [(5, .int v1), (0, .ref l0), (1, .int l1), (2, .int l2), (3, .int l3), (4, .int l4)] dX12_writes_6 (by decide) rfl ?_
    refine z_iload 0 dX12_writes_8 rfl ?_
    refine z_if_eq 20 hf dX12_writes_10 (by decide) (fun hf => ?_) (fun hf => ?_)
    · refine z_aload_n 1 dX12_writes_20 rfl rfl ?_
      obtain ⟨v2, ev2, hf⟩ := ob hf
      refine z_cVv (ci := 12) (T := TX12) (N := 32) (As := []) (rest := []) (zm_X12_keeps ev2).2 (zm_X12_keeps ev2).1 (by decide) rfl (Or.inl rfl) mw_11_23 mw_12_0 mw_12_1 mw_1_5 mw_12_2 yk_X12_keeps (by decide) (by decide) rfl (Nat.le_of_ble_eq_true rfl) rfl dX12_writes_21 ?_
      refine z_aload_n 1 dX12_writes_24 rfl rfl ?_
      refine z_gP (ci := 12) (k := 0) (C := RX12) (T := TX12) (N := 32) rfl inlX12 (by decide) mw_6_19 (fun _ _ _ _ h9 => h9) hf (by decide) rfl dX12_writes_25  (fun v3 hf => ?_)
      refine z_sipush 1426 1426 dX12_writes_28 (by decide) ?_
      refine z_sipush 200 200 dX12_writes_31 (by decide) ?_
      refine z_iload_n 2 dX12_writes_34 rfl rfl ?_
      refine z_imul dX12_writes_35 ?_
      refine z_iadd dX12_writes_36 ?_
      refine z_iload_n 3 dX12_writes_37 rfl rfl ?_
      refine z_iadd dX12_writes_38 ?_
      refine z_iload_n 4 dX12_writes_39 rfl rfl ?_
      refine z_sI hf dX12_writes_40  (fun d4 hf => ?_)
      refine z_aload_n 1 dX12_writes_41 rfl rfl ?_
      refine z_gP (ci := 12) (k := 0) (C := RX12) (T := TX12) (N := 32) rfl inlX12 (by decide) mw_6_19 (fun _ _ _ _ h9 => h9) hf (by decide) rfl dX12_writes_42  (fun v5 hf => ?_)
      refine z_sipush 5426 5426 dX12_writes_45 (by decide) ?_
      refine z_sipush 200 200 dX12_writes_48 (by decide) ?_
      refine z_iload_n 2 dX12_writes_51 rfl rfl ?_
      refine z_imul dX12_writes_52 ?_
      refine z_iadd dX12_writes_53 ?_
      refine z_iload_n 3 dX12_writes_54 rfl rfl ?_
      refine z_iadd dX12_writes_55 ?_
      refine z_iload 5 dX12_writes_56 rfl ?_
      refine z_sI hf dX12_writes_58  (fun d6 hf => ?_)
      refine z_aload_n 1 dX12_writes_59 rfl rfl ?_
      refine z_iconst 1 1 dX12_writes_60 (by decide) ?_
      obtain ⟨v7, ev7, hf⟩ := ob hf
      refine z_cVi (ci := 12) (T := TX12) (N := 32) (As := [.int (1 : Int32)]) (rest := []) (zm_X12_says ev7).2 (zm_X12_says ev7).1 (by decide) rfl (Or.inl rfl) mw_12_4 mw_12_5 mw_12_6 mw_1_5 mw_12_7 yk_X12_says (by decide) (by decide) rfl (Nat.le_of_ble_eq_true rfl) rfl dX12_writes_61 ?_
      cases hf
      exact z_ireturn hE rfl dX12_writes_64
    · refine z_aload_n 1 dX12_writes_13 rfl rfl ?_
      refine z_iload 0 dX12_writes_14 rfl ?_
      obtain ⟨v8, ev8, hf⟩ := ob hf
      refine z_cVi (ci := 12) (T := TX12) (N := 32) (As := [.int v1]) (rest := []) (zm_X12_refuses ev8).2 (zm_X12_refuses ev8).1 (by decide) rfl (Or.inl rfl) mw_11_14 mw_11_15 mw_11_16 mw_1_5 mw_11_17 yk_X12_refuses (by decide) (by decide) rfl (Nat.le_of_ble_eq_true rfl) rfl dX12_writes_16 ?_
      cases hf
      exact z_ireturn hE rfl dX12_writes_19
  · cases hf
set_option maxRecDepth 20000 in
theorem zb_X12_none_17 {N : Nat} {sh : Sh} {r : Int32 × Dt} {E : EV} (hE : TG E (some (.int r.1)) (sh, r.2))  {l0 : Nat} {d : Dt} (hf : f_X12_none_17 N sh l0 d = some r) : Z E yX12_none cX12_none 4 (some .int) 4 (sh, d) 17 [(0, .ref l0)] [] := by
  unfold f_X12_none_17 at hf
  refine z_aload_n 0 dX12_none_17 rfl rfl ?_
  refine z_bipush (-2) (-2) dX12_none_18 (by decide) ?_
  obtain ⟨v3, ev3, hf⟩ := ob hf
  refine z_cVi (ci := 12) (T := TX12) (N := 32) (As := [.int (-2 : Int32)]) (rest := []) (zm_X12_refuses ev3).2 (zm_X12_refuses ev3).1 (by decide) rfl (Or.inl rfl) mw_11_14 mw_11_15 mw_11_16 mw_1_5 mw_11_17 yk_X12_refuses (by decide) (by decide) rfl (Nat.le_of_ble_eq_true rfl) rfl dX12_none_20 ?_
  cases hf
  exact z_ireturn hE rfl dX12_none_23
set_option maxRecDepth 20000 in
theorem zb_X12_none_40 {N : Nat} {sh : Sh} {r : Int32 × Dt} {E : EV} (hE : TG E (some (.int r.1)) (sh, r.2))  {l3 : Int32} {t0 : Nat} {t1 : Int32} {t2 : Int32} {t3 : Int32} {d : Dt} (hf : f_X12_none_40 N sh l3 t0 t1 t2 t3 d = some r) : Z E yX12_none cX12_none 4 (some .int) 4 (sh, d) 40 [(3, .int l3)] [.int t3, .int t2, .int t1, .ref t0] := by
  unfold f_X12_none_40 at hf
  refine z_iconst 1 1 dX12_none_40 (by decide) ?_
  refine z_iload_n 0 dX12_none_41 rfl rfl ?_
  refine z_iadd dX12_none_42 ?_
  obtain ⟨v4, ev4, hf⟩ := ob hf
  refine z_cVi (ci := 12) (T := TX12) (N := 32) (As := [.int t1, .int t2, .int t3, .int ((1 : Int32) + l3)]) (rest := []) (zm_X12_writes ev4).2 (zm_X12_writes ev4).1 (by decide) rfl (Or.inl rfl) mw_23_4 mw_23_5 mw_23_6 mw_1_5 mw_23_7 yk_X12_writes (by decide) (by decide) rfl (Nat.le_of_ble_eq_true rfl) rfl dX12_none_43 ?_
  cases hf
  exact z_ireturn hE rfl dX12_none_46
set_option maxRecDepth 20000 in
theorem zm_X12_none {N : Nat} {sh : Sh} {d : Dt} {l0 : Nat} {l1 : Int32} {l2 : Int32} {l3 : Int32} {r : Int32 × Dt} (hf : f_X12_none N sh l0 l1 l2 l3 d = some r) : isO sh l0 12 ∧ ∀ (l : Launch) (G : GG), Mt l G yX12_none cX12_none 4 (some .int) 4 [.ref l0, .int l1, .int l2, .int l3] (sh, d) (some (.int r.1)) (sh, r.2) := by
  have hf0 := hf
  unfold f_X12_none at hf
  refine ite_d hf (fun hO hf => ?_) (fun _ hf => ?_)
  · refine ⟨hO, fun l G => mt_of (Or.inl (by decide)) (Nat.le_of_ble_eq_true rfl) Le.rf (fun E hE => ?_)⟩
    show Z E yX12_none cX12_none 4 (some .int) 4 (sh, d) 0 [(0, .ref l0), (1, .int l1), (2, .int l2), (3, .int l3)] []
    refine z_aload_n 0 dX12_none_0 rfl rfl ?_
    refine z_iload_n 1 dX12_none_1 rfl rfl ?_
    obtain ⟨v1, ev1, hf⟩ := ob hf
    refine z_cVi (ci := 12) (T := TX12) (N := 32) (As := [.int l1]) (rest := []) (zm_X12_isGauge ev1).2 (zm_X12_isGauge ev1).1 (by decide) rfl (Or.inl rfl) mw_21_9 mw_21_10 mw_21_11 mw_1_5 mw_21_12 yk_X12_isGauge (by decide) (by decide) rfl (Nat.le_of_ble_eq_true rfl) rfl dX12_none_2 ?_
    refine z_if_eq 17 hf dX12_none_5 (by decide) (fun hf => ?_) (fun hf => ?_)
    · refine z_lv [(0, .ref l0)] [0] rfl ?_
      exact zb_X12_none_17 hE hf
    · refine z_iload_n 3 dX12_none_8 rfl rfl ?_
      refine z_iconst 0 0 dX12_none_9 (by decide) ?_
      refine z_iconst 1 1 dX12_none_10 (by decide) ?_
      obtain ⟨v2, ev2, hf⟩ := ob hf
      refine z_cTi (As := [.int l3, .int (0 : Int32), .int (1 : Int32)]) (rest := []) (zm_X12_in ev2) (Or.inl rfl) mw_11_11 mw_11_12 mw_1_5 mw_11_13 yk_X12_in (by decide) (by decide) rfl (Nat.le_of_ble_eq_true rfl) rfl dX12_none_11 ?_
      refine z_if_ne 24 hf dX12_none_14 (by decide) (fun hf => ?_) (fun hf => ?_)
      · refine z_aload_n 0 dX12_none_24 rfl rfl ?_
        refine z_iload_n 1 dX12_none_25 rfl rfl ?_
        refine z_iload_n 2 dX12_none_26 rfl rfl ?_
        refine z_iload_n 3 dX12_none_27 rfl rfl ?_
        refine z_if_ne 37 hf dX12_none_28 (by decide) (fun hf => ?_) (fun hf => ?_)
        · refine z_sipush 32767 32767 dX12_none_37 (by decide) ?_
          refine z_lv [(3, .int l3)] [3] rfl ?_
          exact zb_X12_none_40 hE hf
        · refine z_sipush (-32768) (-32768) dX12_none_31 (by decide) ?_
          refine z_goto 40 dX12_none_34 (by decide) ?_
          refine z_lv [(3, .int l3)] [3] rfl ?_
          exact zb_X12_none_40 hE hf
      · refine z_lv [(0, .ref l0)] [0] rfl ?_
        exact zb_X12_none_17 hE hf
  · cases hf
set_option maxRecDepth 20000 in
theorem zb_X12_odd_33 {N : Nat} {sh : Sh} {r : Int32 × Dt} {E : EV} (hE : TG E (some (.int r.1)) (sh, r.2))  {t0 : Nat} {t1 : Int32} {d : Dt} (hf : f_X12_odd_33 N sh t0 t1 d = some r) : Z E yX12_odd cX12_odd 2 (some .int) 5 (sh, d) 33 [] [.int t1, .ref t0] := by
  unfold f_X12_odd_33 at hf
  obtain ⟨v7, ev7, hf⟩ := ob hf
  refine z_cVi (ci := 12) (T := TX12) (N := 32) (As := [.int t1]) (rest := []) (zm_X12_says ev7).2 (zm_X12_says ev7).1 (by decide) rfl (Or.inl rfl) mw_12_4 mw_12_5 mw_12_6 mw_1_5 mw_12_7 yk_X12_says (by decide) (by decide) rfl (Nat.le_of_ble_eq_true rfl) rfl dX12_odd_33 ?_
  cases hf
  exact z_ireturn hE rfl dX12_odd_36
set_option maxRecDepth 20000 in
theorem zm_X12_odd {N : Nat} {sh : Sh} {d : Dt} {l0 : Nat} {l1 : Int32} {r : Int32 × Dt} (hf : f_X12_odd N sh l0 l1 d = some r) : isO sh l0 12 ∧ ∀ (l : Launch) (G : GG), Mt l G yX12_odd cX12_odd 2 (some .int) 5 [.ref l0, .int l1] (sh, d) (some (.int r.1)) (sh, r.2) := by
  have hf0 := hf
  unfold f_X12_odd at hf
  refine ite_d hf (fun hO hf => ?_) (fun _ hf => ?_)
  · refine ⟨hO, fun l G => mt_of (Or.inl (by decide)) (Nat.le_of_ble_eq_true rfl) Le.rf (fun E hE => ?_)⟩
    show Z E yX12_odd cX12_odd 2 (some .int) 5 (sh, d) 0 [(0, .ref l0), (1, .int l1)] []
    refine z_aload_n 0 dX12_odd_0 rfl rfl ?_
    obtain ⟨v1, ev1, hf⟩ := ob hf
    refine z_cVv (ci := 12) (T := TX12) (N := 32) (As := []) (rest := []) (zm_X12_beginTimes ev1).2 (zm_X12_beginTimes ev1).1 (by decide) rfl (Or.inl rfl) mw_40_9 mw_40_10 mw_40_11 mw_1_5 mw_40_12 yk_X12_beginTimes (by decide) (by decide) rfl (Nat.le_of_ble_eq_true rfl) rfl dX12_odd_1 ?_
    refine z_aload_n 0 dX12_odd_4 rfl rfl ?_
    obtain ⟨v2, ev2, hf⟩ := ob hf
    refine z_cVv (ci := 12) (T := TX12) (N := 32) (As := []) (rest := []) (zm_X12_findOdd ev2).2 (zm_X12_findOdd ev2).1 (by decide) rfl (Or.inl rfl) mw_40_17 mw_40_18 mw_40_19 mw_1_5 mw_40_20 yk_X12_findOdd (by decide) (by decide) rfl (Nat.le_of_ble_eq_true rfl) rfl dX12_odd_5 ?_
    refine z_aload_n 0 dX12_odd_8 rfl rfl ?_
    refine z_iload_n 1 dX12_odd_9 rfl rfl ?_
    refine z_iconst 0 0 dX12_odd_10 (by decide) ?_
    refine z_aload_n 0 dX12_odd_11 rfl rfl ?_
    refine z_gI (ci := 12) (k := 16) (C := RX12) (T := TX12) (N := 32) rfl inlX12 (by decide) mw_40_8 (fun _ _ _ _ h9 => h9) hf (by decide) rfl dX12_odd_12  (fun v3 hf => ?_)
    refine z_iconst 1 1 dX12_odd_15 (by decide) ?_
    refine z_isub dX12_odd_16 ?_
    obtain ⟨v4, ev4, hf⟩ := ob hf
    refine z_cTi (As := [.int l1, .int (0 : Int32), .int (v3 - (1 : Int32))]) (rest := [.ref l0]) (zm_X12_in ev4) (Or.inl rfl) mw_11_11 mw_11_12 mw_1_5 mw_11_13 yk_X12_in (by decide) (by decide) rfl (Nat.le_of_ble_eq_true rfl) rfl dX12_odd_17 ?_
    refine z_if_eq 32 hf dX12_odd_20 (by decide) (fun hf => ?_) (fun hf => ?_)
    · refine z_iconst (-1) (-1) dX12_odd_32 (by decide) ?_
      refine z_lv [] [] rfl ?_
      exact zb_X12_odd_33 hE hf
    · refine z_aload_n 0 dX12_odd_23 rfl rfl ?_
      refine z_gP (ci := 12) (k := 15) (C := RX12) (T := TX12) (N := 32) rfl inlX12 (by decide) mw_7_5 (fun _ _ _ _ h9 => h9) hf (by decide) rfl dX12_odd_24  (fun v5 hf => ?_)
      refine z_iload_n 1 dX12_odd_27 rfl rfl ?_
      refine z_aI hf dX12_odd_28  (fun v6 hf => ?_)
      refine z_goto 33 dX12_odd_29 (by decide) ?_
      refine z_lv [] [] rfl ?_
      exact zb_X12_odd_33 hE hf
  · cases hf
set_option maxRecDepth 20000 in
theorem zb_X12_turned_58 {N : Nat} {sh : Sh} {r : Int32 × Dt} {E : EV} (hE : TG E (some (.int r.1)) (sh, r.2))  {l0 : Nat} {l4 : Int32} {t0 : Nat} {t1 : Int32} {t2 : Int32} {d : Dt} (hf : f_X12_turned_58 N sh l0 l4 t0 t1 t2 d = some r) : Z E yX12_turned cX12_turned 5 (some .int) 3 (sh, d) 58 [(0, .ref l0), (4, .int l4)] [.int t2, .int t1, .ref t0] := by
  unfold f_X12_turned_58 at hf
  refine z_sI hf dX12_turned_58  (fun d10 hf => ?_)
  refine z_aload_n 0 dX12_turned_59 rfl rfl ?_
  refine z_iload 1 dX12_turned_60 rfl ?_
  obtain ⟨v11, ev11, hf⟩ := ob hf
  refine z_cVi (ci := 12) (T := TX12) (N := 32) (As := [.int l4]) (rest := []) (zm_X12_says ev11).2 (zm_X12_says ev11).1 (by decide) rfl (Or.inl rfl) mw_12_4 mw_12_5 mw_12_6 mw_1_5 mw_12_7 yk_X12_says (by decide) (by decide) rfl (Nat.le_of_ble_eq_true rfl) rfl dX12_turned_62 ?_
  cases hf
  exact z_ireturn hE rfl dX12_turned_65
set_option maxRecDepth 20000 in
theorem zm_X12_turned {N : Nat} {sh : Sh} {d : Dt} {l0 : Nat} {l1 : Int32} {l2 : Int32} {l3 : Int32} {r : Int32 × Dt} (hf : f_X12_turned N sh l0 l1 l2 l3 d = some r) : isO sh l0 12 ∧ ∀ (l : Launch) (G : GG), Mt l G yX12_turned cX12_turned 5 (some .int) 3 [.ref l0, .int l1, .int l2, .int l3] (sh, d) (some (.int r.1)) (sh, r.2) := by
  have hf0 := hf
  unfold f_X12_turned at hf
  refine ite_d hf (fun hO hf => ?_) (fun _ hf => ?_)
  · refine ⟨hO, fun l G => mt_of (Or.inl (by decide)) (Nat.le_of_ble_eq_true rfl) Le.rf (fun E hE => ?_)⟩
    show Z E yX12_turned cX12_turned 5 (some .int) 3 (sh, d) 0 [(0, .ref l0), (1, .int l1), (2, .int l2), (3, .int l3)] []
    refine z_aload_n 0 dX12_turned_0 rfl rfl ?_
    refine z_iload_n 1 dX12_turned_1 rfl rfl ?_
    obtain ⟨v1, ev1, hf⟩ := ob hf
    refine z_cVi (ci := 12) (T := TX12) (N := 32) (As := [.int l1]) (rest := []) (zm_X12_isStreet ev1).2 (zm_X12_isStreet ev1).1 (by decide) rfl (Or.inl rfl) mw_14_11 mw_14_12 mw_14_13 mw_1_5 mw_14_14 yk_X12_isStreet (by decide) (by decide) rfl (Nat.le_of_ble_eq_true rfl) rfl dX12_turned_2 ?_
    refine z_if_ne 15 hf dX12_turned_5 (by decide) (fun hf => ?_) (fun hf => ?_)
    · refine z_aload_n 0 dX12_turned_15 rfl rfl ?_
      obtain ⟨v2, ev2, hf⟩ := ob hf
      refine z_cVv (ci := 12) (T := TX12) (N := 32) (As := []) (rest := []) (zm_X12_keeps ev2).2 (zm_X12_keeps ev2).1 (by decide) rfl (Or.inl rfl) mw_11_23 mw_12_0 mw_12_1 mw_1_5 mw_12_2 yk_X12_keeps (by decide) (by decide) rfl (Nat.le_of_ble_eq_true rfl) rfl dX12_turned_16 ?_
      refine z_aload_n 0 dX12_turned_19 rfl rfl ?_
      refine z_iconst 0 0 dX12_turned_20 (by decide) ?_
      refine z_pI (ci := 12) (k := 10) (C := RX12) (T := TX12) (N := 32) rfl inlX12 (by decide) mw_11_10 (fun _ _ _ _ h9 => h9) tyX12 tyX12_ok nmX12 rfl hf (Or.inl (by decide)) rfl rfl rfl dX12_turned_21  (fun d3 hf => ?_)
      refine z_aload_n 0 dX12_turned_24 rfl rfl ?_
      refine z_gP (ci := 12) (k := 0) (C := RX12) (T := TX12) (N := 32) rfl inlX12 (by decide) mw_6_19 (fun _ _ _ _ h9 => h9) hf (by decide) rfl dX12_turned_25  (fun v4 hf => ?_)
      refine z_aload_n 0 dX12_turned_28 rfl rfl ?_
      refine z_iload_n 1 dX12_turned_29 rfl rfl ?_
      obtain ⟨v5, ev5, hf⟩ := ob hf
      refine z_cVi (ci := 12) (T := TX12) (N := 32) (As := [.int l1]) (rest := [.ref v4]) (zm_X12_st ev5).2 (zm_X12_st ev5).1 (by decide) rfl (Or.inl rfl) mw_13_10 mw_13_11 mw_13_12 mw_1_5 mw_13_13 yk_X12_st (by decide) (by decide) rfl (Nat.le_of_ble_eq_true rfl) rfl dX12_turned_30 ?_
      refine z_iload_n 2 dX12_turned_33 rfl rfl ?_
      refine z_iadd dX12_turned_34 ?_
      refine z_aI hf dX12_turned_35  (fun v6 hf => ?_)
      refine z_istore [(4, .int v6), (0, .ref l0), (1, .int l1), (2, .int l2), (3, .int l3)] dX12_turned_36 (by decide) rfl ?_
      refine z_aload_n 1 dX12_turned_38 rfl rfl ?_
      refine z_gP (ci := 12) (k := 0) (C := RX12) (T := TX12) (N := 32) rfl inlX12 (by decide) mw_6_19 (fun _ _ _ _ h9 => h9) hf (by decide) rfl dX12_turned_39  (fun v7 hf => ?_)
      refine z_aload_n 1 dX12_turned_42 rfl rfl ?_
      refine z_iload_n 2 dX12_turned_43 rfl rfl ?_
      obtain ⟨v8, ev8, hf⟩ := ob hf
      refine z_cVi (ci := 12) (T := TX12) (N := 32) (As := [.int l1]) (rest := [.ref v7]) (zm_X12_st ev8).2 (zm_X12_st ev8).1 (by decide) rfl (Or.inl rfl) mw_13_10 mw_13_11 mw_13_12 mw_1_5 mw_13_13 yk_X12_st (by decide) (by decide) rfl (Nat.le_of_ble_eq_true rfl) rfl dX12_turned_44 ?_
      refine z_iload_n 3 dX12_turned_47 rfl rfl ?_
      refine z_iadd dX12_turned_48 ?_
      refine z_iload_n 4 dX12_turned_49 rfl rfl ?_
      refine z_if_eq 57 hf dX12_turned_50 (by decide) (fun hf => ?_) (fun hf => ?_)
      · refine z_iconst 0 0 dX12_turned_57 (by decide) ?_
        refine z_lv [(0, .ref l0), (4, .int v6)] [1, 0] rfl ?_
        exact zb_X12_turned_58 hE hf
      · refine z_iconst 1 1 dX12_turned_53 (by decide) ?_
        refine z_goto 58 dX12_turned_54 (by decide) ?_
        refine z_lv [(0, .ref l0), (4, .int v6)] [1, 0] rfl ?_
        exact zb_X12_turned_58 hE hf
    · refine z_aload_n 0 dX12_turned_8 rfl rfl ?_
      refine z_bipush (-2) (-2) dX12_turned_9 (by decide) ?_
      obtain ⟨v9, ev9, hf⟩ := ob hf
      refine z_cVi (ci := 12) (T := TX12) (N := 32) (As := [.int (-2 : Int32)]) (rest := []) (zm_X12_refuses ev9).2 (zm_X12_refuses ev9).1 (by decide) rfl (Or.inl rfl) mw_11_14 mw_11_15 mw_11_16 mw_1_5 mw_11_17 yk_X12_refuses (by decide) (by decide) rfl (Nat.le_of_ble_eq_true rfl) rfl dX12_turned_11 ?_
      cases hf
      exact z_ireturn hE rfl dX12_turned_14
  · cases hf
set_option maxRecDepth 20000 in
theorem zm_X12_oneWay {N : Nat} {sh : Sh} {d : Dt} {l0 : Nat} {l1 : Int32} {l2 : Int32} {r : Int32 × Dt} (hf : f_X12_oneWay N sh l0 l1 l2 d = some r) : isO sh l0 12 ∧ ∀ (l : Launch) (G : GG), Mt l G yX12_oneWay cX12_oneWay 3 (some .int) 4 [.ref l0, .int l1, .int l2] (sh, d) (some (.int r.1)) (sh, r.2) := by
  have hf0 := hf
  unfold f_X12_oneWay at hf
  refine ite_d hf (fun hO hf => ?_) (fun _ hf => ?_)
  · refine ⟨hO, fun l G => mt_of (Or.inl (by decide)) (Nat.le_of_ble_eq_true rfl) Le.rf (fun E hE => ?_)⟩
    show Z E yX12_oneWay cX12_oneWay 3 (some .int) 4 (sh, d) 0 [(0, .ref l0), (1, .int l1), (2, .int l2)] []
    refine z_aload_n 0 dX12_oneWay_0 rfl rfl ?_
    refine z_iload_n 1 dX12_oneWay_1 rfl rfl ?_
    refine z_iconst 5 5 dX12_oneWay_2 (by decide) ?_
    refine z_iload_n 2 dX12_oneWay_3 rfl rfl ?_
    obtain ⟨v1, ev1, hf⟩ := ob hf
    refine z_cVi (ci := 12) (T := TX12) (N := 32) (As := [.int l1, .int (5 : Int32), .int l2]) (rest := []) (zm_X12_turned ev1).2 (zm_X12_turned ev1).1 (by decide) rfl (Or.inl rfl) mw_14_7 mw_14_8 mw_14_9 mw_1_5 mw_14_10 yk_X12_turned (by decide) (by decide) rfl (Nat.le_of_ble_eq_true rfl) rfl dX12_oneWay_4 ?_
    cases hf
    exact z_ireturn hE rfl dX12_oneWay_7
  · cases hf
set_option maxRecDepth 20000 in
theorem zm_X12_out {N : Nat} {sh : Sh} {d : Dt} {l0 : Nat} {l1 : Int32} {r : Int32 × Dt} (hf : f_X12_out N sh l0 l1 d = some r) : isO sh l0 12 ∧ ∀ (l : Launch) (G : GG), Mt l G yX12_out cX12_out 3 (some .int) 4 [.ref l0, .int l1] (sh, d) (some (.int r.1)) (sh, r.2) := by
  have hf0 := hf
  unfold f_X12_out at hf
  refine ite_d hf (fun hO hf => ?_) (fun _ hf => ?_)
  · refine ⟨hO, fun l G => mt_of (Or.inl (by decide)) (Nat.le_of_ble_eq_true rfl) Le.rf (fun E hE => ?_)⟩
    show Z E yX12_out cX12_out 3 (some .int) 4 (sh, d) 0 [(0, .ref l0), (1, .int l1)] []
    refine z_aload_n 0 dX12_out_0 rfl rfl ?_
    refine z_iload_n 1 dX12_out_1 rfl rfl ?_
    obtain ⟨v1, ev1, hf⟩ := ob hf
    refine z_cVi (ci := 12) (T := TX12) (N := 32) (As := [.int l1]) (rest := []) (zm_X12_isPlough ev1).2 (zm_X12_isPlough ev1).1 (by decide) rfl (Or.inl rfl) mw_32_23 mw_33_0 mw_33_1 mw_1_5 mw_33_2 yk_X12_isPlough (by decide) (by decide) rfl (Nat.le_of_ble_eq_true rfl) rfl dX12_out_2 ?_
    refine z_if_ne 15 hf dX12_out_5 (by decide) (fun hf => ?_) (fun hf => ?_)
    · refine z_aload_n 0 dX12_out_15 rfl rfl ?_
      obtain ⟨v2, ev2, hf⟩ := ob hf
      refine z_cVv (ci := 12) (T := TX12) (N := 32) (As := []) (rest := []) (zm_X12_keeps ev2).2 (zm_X12_keeps ev2).1 (by decide) rfl (Or.inl rfl) mw_11_23 mw_12_0 mw_12_1 mw_1_5 mw_12_2 yk_X12_keeps (by decide) (by decide) rfl (Nat.le_of_ble_eq_true rfl) rfl dX12_out_16 ?_
      refine z_aload_n 0 dX12_out_19 rfl rfl ?_
      refine z_gP (ci := 12) (k := 0) (C := RX12) (T := TX12) (N := 32) rfl inlX12 (by decide) mw_6_19 (fun _ _ _ _ h9 => h9) hf (by decide) rfl dX12_out_20  (fun v3 hf => ?_)
      refine z_aload_n 0 dX12_out_23 rfl rfl ?_
      refine z_iload_n 1 dX12_out_24 rfl rfl ?_
      obtain ⟨v4, ev4, hf⟩ := ob hf
      refine z_cVi (ci := 12) (T := TX12) (N := 32) (As := [.int l1]) (rest := [.ref v3]) (zm_X12_pl ev4).2 (zm_X12_pl ev4).1 (by decide) rfl (Or.inl rfl) mw_31_6 mw_31_7 mw_31_8 mw_1_5 mw_31_9 yk_X12_pl (by decide) (by decide) rfl (Nat.le_of_ble_eq_true rfl) rfl dX12_out_25 ?_
      refine z_iconst 2 2 dX12_out_28 (by decide) ?_
      refine z_iadd dX12_out_29 ?_
      refine z_aI hf dX12_out_30  (fun v5 hf => ?_)
      refine z_istore_n [(2, .int v5), (0, .ref l0), (1, .int l1)] dX12_out_31 rfl (by decide) rfl ?_
      refine z_aload_n 1 dX12_out_32 rfl rfl ?_
      refine z_iload_n 2 dX12_out_33 rfl rfl ?_
      obtain ⟨v6, ev6, hf⟩ := ob hf
      refine z_cVv (ci := 12) (T := TX12) (N := 32) (As := [.int l1]) (rest := []) (zm_X12_leaves ev6).2 (zm_X12_leaves ev6).1 (by decide) rfl (Or.inl rfl) mw_33_7 mw_33_8 mw_33_9 mw_1_5 mw_33_10 yk_X12_leaves (by decide) (by decide) rfl (Nat.le_of_ble_eq_true rfl) rfl dX12_out_34 ?_
      refine z_aload_n 1 dX12_out_37 rfl rfl ?_
      refine z_iconst 1 1 dX12_out_38 (by decide) ?_
      refine z_iload_n 0 dX12_out_39 rfl rfl ?_
      refine z_isub dX12_out_40 ?_
      obtain ⟨v7, ev7, hf⟩ := ob hf
      refine z_cVi (ci := 12) (T := TX12) (N := 32) (As := [.int ((1 : Int32) - v5)]) (rest := []) (zm_X12_says ev7).2 (zm_X12_says ev7).1 (by decide) rfl (Or.inl rfl) mw_12_4 mw_12_5 mw_12_6 mw_1_5 mw_12_7 yk_X12_says (by decide) (by decide) rfl (Nat.le_of_ble_eq_true rfl) rfl dX12_out_41 ?_
      cases hf
      exact z_ireturn hE rfl dX12_out_44
    · refine z_aload_n 0 dX12_out_8 rfl rfl ?_
      refine z_bipush (-2) (-2) dX12_out_9 (by decide) ?_
      obtain ⟨v8, ev8, hf⟩ := ob hf
      refine z_cVi (ci := 12) (T := TX12) (N := 32) (As := [.int (-2 : Int32)]) (rest := []) (zm_X12_refuses ev8).2 (zm_X12_refuses ev8).1 (by decide) rfl (Or.inl rfl) mw_11_14 mw_11_15 mw_11_16 mw_1_5 mw_11_17 yk_X12_refuses (by decide) (by decide) rfl (Nat.le_of_ble_eq_true rfl) rfl dX12_out_11 ?_
      cases hf
      exact z_ireturn hE rfl dX12_out_14
  · cases hf
set_option maxRecDepth 20000 in
theorem zb_X12_unfit_43 {N : Nat} {sh : Sh} {d : Dt} {r : Int32} {E : EV} (hE : TG E (some (.int r)) (sh, d))  {t0 : Int32} (hf : f_X12_unfit_43 N sh t0 d = some r) : Z E yX12_unfit cX12_unfit 2 (some .int) 2 (sh, d) 43 [] [.int t0] := by
  unfold f_X12_unfit_43 at hf
  cases hf
  exact z_ireturn hE rfl dX12_unfit_43
set_option maxRecDepth 20000 in
theorem zm_X12_unfit {N : Nat} {sh : Sh} {d : Dt} {l0 : Nat} {l1 : Int32} {r : Int32} (hf : f_X12_unfit N sh l0 l1 d = some r) : isO sh l0 12 ∧ ∀ (l : Launch) (G : GG), Mt l G yX12_unfit cX12_unfit 2 (some .int) 2 [.ref l0, .int l1] (sh, d) (some (.int r)) (sh, d) := by
  have hf0 := hf
  unfold f_X12_unfit at hf
  refine ite_d hf (fun hO hf => ?_) (fun _ hf => ?_)
  · refine ⟨hO, fun l G => mt_of (Or.inl (by decide)) (Nat.le_of_ble_eq_true rfl) Le.rf (fun E hE => ?_)⟩
    show Z E yX12_unfit cX12_unfit 2 (some .int) 2 (sh, d) 0 [(0, .ref l0), (1, .int l1)] []
    refine z_aload_n 0 dX12_unfit_0 rfl rfl ?_
    refine z_gP (ci := 12) (k := 0) (C := RX12) (T := TX12) (N := 32) rfl inlX12 (by decide) mw_6_19 (fun _ _ _ _ h9 => h9) hf (by decide) rfl dX12_unfit_1  (fun v1 hf => ?_)
    refine z_aload_n 0 dX12_unfit_4 rfl rfl ?_
    refine z_iload_n 1 dX12_unfit_5 rfl rfl ?_
    obtain ⟨v2, ev2, hf⟩ := ob hf
    refine z_cVi (ci := 12) (T := TX12) (N := 32) (As := [.int l1]) (rest := [.ref v1]) (zm_X12_pl ev2).2 (zm_X12_pl ev2).1 (by decide) rfl (Or.inl rfl) mw_31_6 mw_31_7 mw_31_8 mw_1_5 mw_31_9 yk_X12_pl (by decide) (by decide) rfl (Nat.le_of_ble_eq_true rfl) rfl dX12_unfit_6 ?_
    refine z_iconst 2 2 dX12_unfit_9 (by decide) ?_
    refine z_iadd dX12_unfit_10 ?_
    refine z_aI hf dX12_unfit_11  (fun v3 hf => ?_)
    refine z_iconst 1 1 dX12_unfit_12 (by decide) ?_
    refine z_icmp_ne 21 hf dX12_unfit_13 (by decide) (fun hf => ?_) (fun hf => ?_)
    · refine z_aload_n 0 dX12_unfit_21 rfl rfl ?_
      refine z_gP (ci := 12) (k := 0) (C := RX12) (T := TX12) (N := 32) rfl inlX12 (by decide) mw_6_19 (fun _ _ _ _ h9 => h9) hf (by decide) rfl dX12_unfit_22  (fun v4 hf => ?_)
      refine z_aload_n 0 dX12_unfit_25 rfl rfl ?_
      refine z_iload_n 1 dX12_unfit_26 rfl rfl ?_
      obtain ⟨v5, ev5, hf⟩ := ob hf
      refine z_cVi (ci := 12) (T := TX12) (N := 32) (As := [.int l1]) (rest := [.ref v4]) (zm_X12_pl ev5).2 (zm_X12_pl ev5).1 (by decide) rfl (Or.inl rfl) mw_31_6 mw_31_7 mw_31_8 mw_1_5 mw_31_9 yk_X12_pl (by decide) (by decide) rfl (Nat.le_of_ble_eq_true rfl) rfl dX12_unfit_27 ?_
      refine z_iconst 0 0 dX12_unfit_30 (by decide) ?_
      refine z_iadd dX12_unfit_31 ?_
      refine z_aI hf dX12_unfit_32  (fun v6 hf => ?_)
      refine z_iconst 4 4 dX12_unfit_33 (by decide) ?_
      refine z_icmp_ne 42 hf dX12_unfit_34 (by decide) (fun hf => ?_) (fun hf => ?_)
      · refine z_iconst 0 0 dX12_unfit_42 (by decide) ?_
        refine z_lv [] [] rfl ?_
        exact zb_X12_unfit_43 hE hf
      · refine z_bipush (-6) (-6) dX12_unfit_37 (by decide) ?_
        refine z_goto 43 dX12_unfit_39 (by decide) ?_
        refine z_lv [] [] rfl ?_
        exact zb_X12_unfit_43 hE hf
    · refine z_bipush (-4) (-4) dX12_unfit_16 (by decide) ?_
      refine z_goto 43 dX12_unfit_18 (by decide) ?_
      refine z_lv [] [] rfl ?_
      exact zb_X12_unfit_43 hE hf
  · cases hf
set_option maxRecDepth 20000 in
theorem zb_X12_pair_32 {N : Nat} {sh : Sh} {r : Int32 × Dt} {E : EV} (hE : TG E (some (.int r.1)) (sh, r.2))  {l0 : Nat} {d : Dt} (hf : f_X12_pair_32 N sh l0 d = some r) : Z E yX12_pair cX12_pair 5 (some .int) 4 (sh, d) 32 [(0, .ref l0)] [] := by
  unfold f_X12_pair_32 at hf
  refine z_aload_n 0 dX12_pair_32 rfl rfl ?_
  refine z_bipush (-2) (-2) dX12_pair_33 (by decide) ?_
  obtain ⟨v9, ev9, hf⟩ := ob hf
  refine z_cVi (ci := 12) (T := TX12) (N := 32) (As := [.int (-2 : Int32)]) (rest := []) (zm_X12_refuses ev9).2 (zm_X12_refuses ev9).1 (by decide) rfl (Or.inl rfl) mw_11_14 mw_11_15 mw_11_16 mw_1_5 mw_11_17 yk_X12_refuses (by decide) (by decide) rfl (Nat.le_of_ble_eq_true rfl) rfl dX12_pair_35 ?_
  cases hf
  exact z_ireturn hE rfl dX12_pair_38
set_option maxRecDepth 20000 in
theorem zb_X12_pair_79 {N : Nat} {sh : Sh} {r : Int32 × Dt} {E : EV} (hE : TG E (some (.int r.1)) (sh, r.2))  {l0 : Nat} {l1 : Int32} {l2 : Int32} {l3 : Int32} {t0 : Int32} {d : Dt} (hf : f_X12_pair_79 N sh l0 l1 l2 l3 t0 d = some r) : Z E yX12_pair cX12_pair 5 (some .int) 4 (sh, d) 79 [(0, .ref l0), (1, .int l1), (2, .int l2), (3, .int l3)] [.int t0] := by
  unfold f_X12_pair_79 at hf
  refine z_istore [(4, .int t0), (0, .ref l0), (1, .int l1), (2, .int l2), (3, .int l3)] dX12_pair_79 (by decide) rfl ?_
  refine z_iload 0 dX12_pair_81 rfl ?_
  refine z_if_eq 93 hf dX12_pair_83 (by decide) (fun hf => ?_) (fun hf => ?_)
  · refine z_aload_n 1 dX12_pair_93 rfl rfl ?_
    obtain ⟨v10, ev10, hf⟩ := ob hf
    refine z_cVv (ci := 12) (T := TX12) (N := 32) (As := []) (rest := []) (zm_X12_keeps ev10).2 (zm_X12_keeps ev10).1 (by decide) rfl (Or.inl rfl) mw_11_23 mw_12_0 mw_12_1 mw_1_5 mw_12_2 yk_X12_keeps (by decide) (by decide) rfl (Nat.le_of_ble_eq_true rfl) rfl dX12_pair_94 ?_
    refine z_aload_n 1 dX12_pair_97 rfl rfl ?_
    refine z_iload_n 2 dX12_pair_98 rfl rfl ?_
    obtain ⟨v11, ev11, hf⟩ := ob hf
    refine z_cVv (ci := 12) (T := TX12) (N := 32) (As := [.int l1]) (rest := []) (zm_X12_leaves ev11).2 (zm_X12_leaves ev11).1 (by decide) rfl (Or.inl rfl) mw_33_7 mw_33_8 mw_33_9 mw_1_5 mw_33_10 yk_X12_leaves (by decide) (by decide) rfl (Nat.le_of_ble_eq_true rfl) rfl dX12_pair_99 ?_
    refine z_aload_n 1 dX12_pair_102 rfl rfl ?_
    refine z_iload_n 3 dX12_pair_103 rfl rfl ?_
    obtain ⟨v12, ev12, hf⟩ := ob hf
    refine z_cVv (ci := 12) (T := TX12) (N := 32) (As := [.int l2]) (rest := []) (zm_X12_leaves ev12).2 (zm_X12_leaves ev12).1 (by decide) rfl (Or.inl rfl) mw_33_7 mw_33_8 mw_33_9 mw_1_5 mw_33_10 yk_X12_leaves (by decide) (by decide) rfl (Nat.le_of_ble_eq_true rfl) rfl dX12_pair_104 ?_
    refine z_aload_n 1 dX12_pair_107 rfl rfl ?_
    refine z_iconst 4 4 dX12_pair_108 (by decide) ?_
    refine z_iload_n 4 dX12_pair_109 rfl rfl ?_
    refine z_iload_n 2 dX12_pair_110 rfl rfl ?_
    refine z_iload_n 3 dX12_pair_111 rfl rfl ?_
    obtain ⟨v13, ev13, hf⟩ := ob hf
    refine z_cVi (ci := 12) (T := TX12) (N := 32) (As := [.int (4 : Int32), .int l3, .int l1, .int l2]) (rest := []) (zm_X12_comes ev13).2 (zm_X12_comes ev13).1 (by decide) rfl (Or.inl rfl) mw_31_2 mw_31_3 mw_31_4 mw_1_5 mw_31_5 yk_X12_comes (by decide) (by decide) rfl (Nat.le_of_ble_eq_true rfl) rfl dX12_pair_112 ?_
    cases hf
    exact z_ireturn hE rfl dX12_pair_115
  · refine z_aload_n 1 dX12_pair_86 rfl rfl ?_
    refine z_iload 0 dX12_pair_87 rfl ?_
    obtain ⟨v14, ev14, hf⟩ := ob hf
    refine z_cVi (ci := 12) (T := TX12) (N := 32) (As := [.int t0]) (rest := []) (zm_X12_refuses ev14).2 (zm_X12_refuses ev14).1 (by decide) rfl (Or.inl rfl) mw_11_14 mw_11_15 mw_11_16 mw_1_5 mw_11_17 yk_X12_refuses (by decide) (by decide) rfl (Nat.le_of_ble_eq_true rfl) rfl dX12_pair_89 ?_
    cases hf
    exact z_ireturn hE rfl dX12_pair_92
set_option maxRecDepth 20000 in
theorem zm_X12_pair {N : Nat} {sh : Sh} {d : Dt} {l0 : Nat} {l1 : Int32} {l2 : Int32} {l3 : Int32} {r : Int32 × Dt} (hf : f_X12_pair N sh l0 l1 l2 l3 d = some r) : isO sh l0 12 ∧ ∀ (l : Launch) (G : GG), Mt l G yX12_pair cX12_pair 5 (some .int) 4 [.ref l0, .int l1, .int l2, .int l3] (sh, d) (some (.int r.1)) (sh, r.2) := by
  have hf0 := hf
  unfold f_X12_pair at hf
  refine ite_d hf (fun hO hf => ?_) (fun _ hf => ?_)
  · refine ⟨hO, fun l G => mt_of (Or.inl (by decide)) (Nat.le_of_ble_eq_true rfl) Le.rf (fun E hE => ?_)⟩
    show Z E yX12_pair cX12_pair 5 (some .int) 4 (sh, d) 0 [(0, .ref l0), (1, .int l1), (2, .int l2), (3, .int l3)] []
    refine z_aload_n 0 dX12_pair_0 rfl rfl ?_
    refine z_iload_n 1 dX12_pair_1 rfl rfl ?_
    obtain ⟨v1, ev1, hf⟩ := ob hf
    refine z_cVi (ci := 12) (T := TX12) (N := 32) (As := [.int l1]) (rest := []) (zm_X12_isPlough ev1).2 (zm_X12_isPlough ev1).1 (by decide) rfl (Or.inl rfl) mw_32_23 mw_33_0 mw_33_1 mw_1_5 mw_33_2 yk_X12_isPlough (by decide) (by decide) rfl (Nat.le_of_ble_eq_true rfl) rfl dX12_pair_2 ?_
    refine z_if_eq 32 hf dX12_pair_5 (by decide) (fun hf => ?_) (fun hf => ?_)
    · refine z_lv [(0, .ref l0)] [0] rfl ?_
      exact zb_X12_pair_32 hE hf
    · refine z_aload_n 0 dX12_pair_8 rfl rfl ?_
      refine z_iload_n 2 dX12_pair_9 rfl rfl ?_
      obtain ⟨v2, ev2, hf⟩ := ob hf
      refine z_cVi (ci := 12) (T := TX12) (N := 32) (As := [.int l2]) (rest := []) (zm_X12_isPlough ev2).2 (zm_X12_isPlough ev2).1 (by decide) rfl (Or.inl rfl) mw_32_23 mw_33_0 mw_33_1 mw_1_5 mw_33_2 yk_X12_isPlough (by decide) (by decide) rfl (Nat.le_of_ble_eq_true rfl) rfl dX12_pair_10 ?_
      refine z_if_eq 32 hf dX12_pair_13 (by decide) (fun hf => ?_) (fun hf => ?_)
      · refine z_lv [(0, .ref l0)] [0] rfl ?_
        exact zb_X12_pair_32 hE hf
      · refine z_iload_n 1 dX12_pair_16 rfl rfl ?_
        refine z_iload_n 2 dX12_pair_17 rfl rfl ?_
        refine z_icmp_eq 32 hf dX12_pair_18 (by decide) (fun hf => ?_) (fun hf => ?_)
        · refine z_lv [(0, .ref l0)] [0] rfl ?_
          exact zb_X12_pair_32 hE hf
        · refine z_iload_n 3 dX12_pair_21 rfl rfl ?_
          refine z_iconst 0 0 dX12_pair_22 (by decide) ?_
          refine z_sipush 10000 10000 dX12_pair_23 (by decide) ?_
          obtain ⟨v3, ev3, hf⟩ := ob hf
          refine z_cTi (As := [.int l3, .int (0 : Int32), .int (10000 : Int32)]) (rest := []) (zm_X12_in ev3) (Or.inl rfl) mw_11_11 mw_11_12 mw_1_5 mw_11_13 yk_X12_in (by decide) (by decide) rfl (Nat.le_of_ble_eq_true rfl) rfl dX12_pair_26 ?_
          refine z_if_ne 39 hf dX12_pair_29 (by decide) (fun hf => ?_) (fun hf => ?_)
          · refine z_aload_n 0 dX12_pair_39 rfl rfl ?_
            refine z_gP (ci := 12) (k := 0) (C := RX12) (T := TX12) (N := 32) rfl inlX12 (by decide) mw_6_19 (fun _ _ _ _ h9 => h9) hf (by decide) rfl dX12_pair_40  (fun v4 hf => ?_)
            refine z_iconst 3 3 dX12_pair_43 (by decide) ?_
            refine z_aI hf dX12_pair_44  (fun v5 hf => ?_)
            refine z_bipush 12 12 dX12_pair_45 (by decide) ?_
            refine z_icmp_ne 57 hf dX12_pair_47 (by decide) (fun hf => ?_) (fun hf => ?_)
            · refine z_aload_n 0 dX12_pair_57 rfl rfl ?_
              refine z_iload_n 1 dX12_pair_58 rfl rfl ?_
              obtain ⟨v6, ev6, hf⟩ := ob hf
              refine z_cVi (ci := 12) (T := TX12) (N := 32) (As := [.int l1]) (rest := []) (zm_X12_unfit ev6).2 (zm_X12_unfit ev6).1 (by decide) rfl (Or.inl rfl) mw_33_3 mw_33_4 mw_33_5 mw_1_5 mw_33_6 yk_X12_unfit (by decide) (by decide) rfl (Nat.le_of_ble_eq_true rfl) rfl dX12_pair_59 ?_
              refine z_istore [(4, .int v6), (0, .ref l0), (1, .int l1), (2, .int l2), (3, .int l3)] dX12_pair_62 (by decide) rfl ?_
              refine z_iload 0 dX12_pair_64 rfl ?_
              refine z_if_ne 77 hf dX12_pair_66 (by decide) (fun hf => ?_) (fun hf => ?_)
              · refine z_iload 0 dX12_pair_77 rfl ?_
                refine z_lv [(0, .ref l0), (1, .int l1), (2, .int l2), (3, .int l3)] [1, 2, 3, 4] rfl ?_
                exact zb_X12_pair_79 hE hf
              · refine z_aload_n 1 dX12_pair_69 rfl rfl ?_
                refine z_iload_n 3 dX12_pair_70 rfl rfl ?_
                obtain ⟨v7, ev7, hf⟩ := ob hf
                refine z_cVi (ci := 12) (T := TX12) (N := 32) (As := [.int l2]) (rest := []) (zm_X12_unfit ev7).2 (zm_X12_unfit ev7).1 (by decide) rfl (Or.inl rfl) mw_33_3 mw_33_4 mw_33_5 mw_1_5 mw_33_6 yk_X12_unfit (by decide) (by decide) rfl (Nat.le_of_ble_eq_true rfl) rfl dX12_pair_71 ?_
                refine z_goto 79 dX12_pair_74 (by decide) ?_
                refine z_lv [(0, .ref l0), (1, .int l1), (2, .int l2), (3, .int l3)] [1, 2, 3, 4] rfl ?_
                exact zb_X12_pair_79 hE hf
            · refine z_aload_n 0 dX12_pair_50 rfl rfl ?_
              refine z_bipush (-3) (-3) dX12_pair_51 (by decide) ?_
              obtain ⟨v8, ev8, hf⟩ := ob hf
              refine z_cVi (ci := 12) (T := TX12) (N := 32) (As := [.int (-3 : Int32)]) (rest := []) (zm_X12_refuses ev8).2 (zm_X12_refuses ev8).1 (by decide) rfl (Or.inl rfl) mw_11_14 mw_11_15 mw_11_16 mw_1_5 mw_11_17 yk_X12_refuses (by decide) (by decide) rfl (Nat.le_of_ble_eq_true rfl) rfl dX12_pair_53 ?_
              cases hf
              exact z_ireturn hE rfl dX12_pair_56
          · refine z_lv [(0, .ref l0)] [0] rfl ?_
            exact zb_X12_pair_32 hE hf
  · cases hf
set_option maxRecDepth 20000 in
theorem zb_X12_pairsInOrder_78 {N : Nat} {sh : Sh} {r : Dt} {E : EV} (hE : TG E none (sh, r))   {d : Dt} (hf : f_X12_pairsInOrder_78 N sh  d = some r) : Z E yX12_pairsInOrder cX12_pairsInOrder 2 none 4 (sh, d) 78 [] [] := by
  unfold f_X12_pairsInOrder_78 at hf
  cases hf
  exact z_return hE rfl dX12_pairsInOrder_78
set_option maxRecDepth 20000 in
theorem zg_X12_pairsInOrder_48 {N : Nat} {sh : Sh} {r : Dt} {k48 : Nat → Dt → Option Dt} {E : EV} (hE : TG E none (sh, r))  (hk48 : ∀ (l0 : Nat) (d : Dt), k48 l0 d = some r → Z E yX12_pairsInOrder cX12_pairsInOrder 2 none 4 (sh, d) 48 [(0, .ref l0)] []) {l0 : Nat} {d : Dt} (hf : g_X12_pairsInOrder_48 N sh k48 l0 d = some r) : Z E yX12_pairsInOrder cX12_pairsInOrder 2 none 4 (sh, d) 48 [(0, .ref l0)] [] := by
  unfold g_X12_pairsInOrder_48 at hf
  refine z_aload_n 0 dX12_pairsInOrder_48 rfl rfl ?_
  refine z_gI (ci := 12) (k := 20) (C := RX12) (T := TX12) (N := 32) rfl inlX12 (by decide) mw_48_18 (fun _ _ _ _ h9 => h9) hf (by decide) rfl dX12_pairsInOrder_49  (fun v10 hf => ?_)
  refine z_sipush 1000 1000 dX12_pairsInOrder_52 (by decide) ?_
  refine z_icmp_ge 78 hf dX12_pairsInOrder_55 (by decide) (fun hf => ?_) (fun hf => ?_)
  · refine z_lv [] [] rfl ?_
    exact zb_X12_pairsInOrder_78 hE hf
  · refine z_aload_n 0 dX12_pairsInOrder_58 rfl rfl ?_
    obtain ⟨v11, ev11, hf⟩ := ob hf
    refine z_cVi (ci := 12) (T := TX12) (N := 32) (As := []) (rest := []) (zm_X12_isExchanged ev11).2 (zm_X12_isExchanged ev11).1 (by decide) rfl (Or.inl rfl) mw_50_21 mw_50_22 mw_50_23 mw_1_5 mw_51_0 yk_X12_isExchanged (by decide) (by decide) rfl (Nat.le_of_ble_eq_true rfl) rfl dX12_pairsInOrder_59 ?_
    refine z_if_eq 78 hf dX12_pairsInOrder_62 (by decide) (fun hf => ?_) (fun hf => ?_)
    · refine z_lv [] [] rfl ?_
      exact zb_X12_pairsInOrder_78 hE hf
    · refine z_aload_n 0 dX12_pairsInOrder_65 rfl rfl ?_
      refine z_dup dX12_pairsInOrder_66 rfl ?_
      refine z_gI (ci := 12) (k := 20) (C := RX12) (T := TX12) (N := 32) rfl inlX12 (by decide) mw_48_18 (fun _ _ _ _ h9 => h9) hf (by decide) rfl dX12_pairsInOrder_67  (fun v12 hf => ?_)
      refine z_iconst 1 1 dX12_pairsInOrder_70 (by decide) ?_
      refine z_iadd dX12_pairsInOrder_71 ?_
      refine z_pI (ci := 12) (k := 20) (C := RX12) (T := TX12) (N := 32) rfl inlX12 (by decide) mw_48_18 (fun _ _ _ _ h9 => h9) tyX12 tyX12_ok nmX12 rfl hf (Or.inl (by decide)) rfl rfl rfl dX12_pairsInOrder_72  (fun d13 hf => ?_)
      refine z_goto 48 dX12_pairsInOrder_75 (by decide) ?_
      exact hk48 _ _ hf
set_option maxRecDepth 20000 in
theorem zb_X12_pairsInOrder_48 {N : Nat} {sh : Sh} {r : Dt} {E : EV} (hE : TG E none (sh, r))  : ∀ (n : Nat) (l0 : Nat) (d : Dt), f_X12_pairsInOrder_48 N sh n l0 d = some r → Z E yX12_pairsInOrder cX12_pairsInOrder 2 none 4 (sh, d) 48 [(0, .ref l0)] [] := by
  intro n
  induction n with
  | zero => intro l0 d hf; cases hf
  | succ n ih => intro l0 d hf; exact zg_X12_pairsInOrder_48 hE ih hf
set_option maxRecDepth 20000 in
theorem zg_X12_pairsInOrder_2 {N : Nat} {sh : Sh} {r : Dt} {k2 : Nat → Int32 → Dt → Option Dt} {E : EV} (hE : TG E none (sh, r))  (hk2 : ∀ (l0 : Nat) (l1 : Int32) (d : Dt), k2 l0 l1 d = some r → Z E yX12_pairsInOrder cX12_pairsInOrder 2 none 4 (sh, d) 2 [(0, .ref l0), (1, .int l1)] []) {l0 : Nat} {l1 : Int32} {d : Dt} (hf : g_X12_pairsInOrder_2 N sh k2 l0 l1 d = some r) : Z E yX12_pairsInOrder cX12_pairsInOrder 2 none 4 (sh, d) 2 [(0, .ref l0), (1, .int l1)] [] := by
  unfold g_X12_pairsInOrder_2 at hf
  refine z_iload_n 1 dX12_pairsInOrder_2 rfl rfl ?_
  refine z_aload_n 0 dX12_pairsInOrder_3 rfl rfl ?_
  refine z_gI (ci := 12) (k := 16) (C := RX12) (T := TX12) (N := 32) rfl inlX12 (by decide) mw_40_8 (fun _ _ _ _ h9 => h9) hf (by decide) rfl dX12_pairsInOrder_4  (fun v1 hf => ?_)
  refine z_icmp_ge 48 hf dX12_pairsInOrder_7 (by decide) (fun hf => ?_) (fun hf => ?_)
  · refine z_lv [(0, .ref l0)] [0] rfl ?_
    exact zb_X12_pairsInOrder_48 hE N _ _ hf
  · refine z_aload_n 0 dX12_pairsInOrder_10 rfl rfl ?_
    refine z_aload_n 0 dX12_pairsInOrder_11 rfl rfl ?_
    refine z_gI (ci := 12) (k := 21) (C := RX12) (T := TX12) (N := 32) rfl inlX12 (by decide) mw_48_19 (fun _ _ _ _ h9 => h9) hf (by decide) rfl dX12_pairsInOrder_12  (fun v2 hf => ?_)
    refine z_aload_n 0 dX12_pairsInOrder_15 rfl rfl ?_
    refine z_gP (ci := 12) (k := 15) (C := RX12) (T := TX12) (N := 32) rfl inlX12 (by decide) mw_7_5 (fun _ _ _ _ h9 => h9) hf (by decide) rfl dX12_pairsInOrder_16  (fun v3 hf => ?_)
    refine z_iload_n 1 dX12_pairsInOrder_19 rfl rfl ?_
    refine z_aI hf dX12_pairsInOrder_20  (fun v4 hf => ?_)
    refine z_aload_n 0 dX12_pairsInOrder_21 rfl rfl ?_
    refine z_gP (ci := 12) (k := 15) (C := RX12) (T := TX12) (N := 32) rfl inlX12 (by decide) mw_7_5 (fun _ _ _ _ h9 => h9) hf (by decide) rfl dX12_pairsInOrder_22  (fun v5 hf => ?_)
    refine z_iload_n 1 dX12_pairsInOrder_25 rfl rfl ?_
    refine z_iconst 1 1 dX12_pairsInOrder_26 (by decide) ?_
    refine z_iadd dX12_pairsInOrder_27 ?_
    refine z_aI hf dX12_pairsInOrder_28  (fun v6 hf => ?_)
    obtain ⟨v7, ev7, hf⟩ := ob hf
    refine z_cVv (ci := 12) (T := TX12) (N := 32) (As := [.int v2, .int v4, .int v6]) (rest := []) (zm_X12_pairsUp ev7).2 (zm_X12_pairsUp ev7).1 (by decide) rfl (Or.inl rfl) mw_50_13 mw_50_14 mw_50_15 mw_1_5 mw_50_16 yk_X12_pairsUp (by decide) (by decide) rfl (Nat.le_of_ble_eq_true rfl) rfl dX12_pairsInOrder_29 ?_
    refine z_aload_n 0 dX12_pairsInOrder_32 rfl rfl ?_
    refine z_dup dX12_pairsInOrder_33 rfl ?_
    refine z_gI (ci := 12) (k := 21) (C := RX12) (T := TX12) (N := 32) rfl inlX12 (by decide) mw_48_19 (fun _ _ _ _ h9 => h9) hf (by decide) rfl dX12_pairsInOrder_34  (fun v8 hf => ?_)
    refine z_iconst 1 1 dX12_pairsInOrder_37 (by decide) ?_
    refine z_iadd dX12_pairsInOrder_38 ?_
    refine z_pI (ci := 12) (k := 21) (C := RX12) (T := TX12) (N := 32) rfl inlX12 (by decide) mw_48_19 (fun _ _ _ _ h9 => h9) tyX12 tyX12_ok nmX12 rfl hf (Or.inl (by decide)) rfl rfl rfl dX12_pairsInOrder_39  (fun d9 hf => ?_)
    refine z_iinc [(1, .int (l1 + 2)), (0, .ref l0)] 1 (l1 + 2) dX12_pairsInOrder_42 rfl rfl (by decide) rfl ?_
    refine z_goto 2 dX12_pairsInOrder_45 (by decide) ?_
    refine z_lv [(0, .ref l0), (1, .int (l1 + 2))] [1, 0] rfl ?_
    exact hk2 _ _ _ hf
set_option maxRecDepth 20000 in
theorem zb_X12_pairsInOrder_2 {N : Nat} {sh : Sh} {r : Dt} {E : EV} (hE : TG E none (sh, r))  : ∀ (n : Nat) (l0 : Nat) (l1 : Int32) (d : Dt), f_X12_pairsInOrder_2 N sh n l0 l1 d = some r → Z E yX12_pairsInOrder cX12_pairsInOrder 2 none 4 (sh, d) 2 [(0, .ref l0), (1, .int l1)] [] := by
  intro n
  induction n with
  | zero => intro l0 l1 d hf; cases hf
  | succ n ih => intro l0 l1 d hf; exact zg_X12_pairsInOrder_2 hE ih hf
set_option maxRecDepth 20000 in
theorem zm_X12_pairsInOrder {N : Nat} {sh : Sh} {d : Dt} {l0 : Nat} {r : Dt} (hf : f_X12_pairsInOrder N sh l0 d = some r) : isO sh l0 12 ∧ ∀ (l : Launch) (G : GG), Mt l G yX12_pairsInOrder cX12_pairsInOrder 2 none 4 [.ref l0] (sh, d) none (sh, r) := by
  have hf0 := hf
  unfold f_X12_pairsInOrder at hf
  refine ite_d hf (fun hO hf => ?_) (fun _ hf => ?_)
  · refine ⟨hO, fun l G => mt_of (Or.inl (by decide)) (Nat.le_of_ble_eq_true rfl) Le.rf (fun E hE => ?_)⟩
    show Z E yX12_pairsInOrder cX12_pairsInOrder 2 none 4 (sh, d) 0 [(0, .ref l0)] []
    refine z_iconst 0 0 dX12_pairsInOrder_0 (by decide) ?_
    refine z_istore_n [(1, .int (0 : Int32)), (0, .ref l0)] dX12_pairsInOrder_1 rfl (by decide) rfl ?_
    refine z_lv [(0, .ref l0), (1, .int (0 : Int32))] [1, 0] rfl ?_
    exact zb_X12_pairsInOrder_2 hE N _ _ _ hf
  · cases hf
set_option maxRecDepth 20000 in
theorem zb_X12_pairsLeast_124 {N : Nat} {sh : Sh} {r : Dt} {E : EV} (hE : TG E none (sh, r))   {d : Dt} (hf : f_X12_pairsLeast_124 N sh  d = some r) : Z E yX12_pairsLeast cX12_pairsLeast 4 none 5 (sh, d) 124 [] [] := by
  unfold f_X12_pairsLeast_124 at hf
  cases hf
  exact z_return hE rfl dX12_pairsLeast_124
set_option maxRecDepth 20000 in
theorem zb_X12_pairsLeast_75 {N : Nat} {sh : Sh} {k14 : Nat → Int32 → Dt → Option Dt} {k27 : Nat → Int32 → Int32 → Int32 → Dt → Option Dt} {r : Dt} {E : EV} (hE : TG E none (sh, r)) (hk14 : ∀ (l0 : Nat) (l1 : Int32) (d : Dt), k14 l0 l1 d = some r → Z E yX12_pairsLeast cX12_pairsLeast 4 none 5 (sh, d) 14 [(0, .ref l0), (1, .int l1)] []) (hk27 : ∀ (l0 : Nat) (l1 : Int32) (l2 : Int32) (l3 : Int32) (d : Dt), k27 l0 l1 l2 l3 d = some r → Z E yX12_pairsLeast cX12_pairsLeast 4 none 5 (sh, d) 27 [(0, .ref l0), (1, .int l1), (2, .int l2), (3, .int l3)] []) {l0 : Nat} {l1 : Int32} {l2 : Int32} {l3 : Int32} {d : Dt} (hf : f_X12_pairsLeast_75 N sh k14 k27 l0 l1 l2 l3 d = some r) : Z E yX12_pairsLeast cX12_pairsLeast 4 none 5 (sh, d) 75 [(0, .ref l0), (1, .int l1), (2, .int l2), (3, .int l3)] [] := by
  unfold f_X12_pairsLeast_75 at hf
  refine z_iinc [(3, .int (l3 + 1)), (0, .ref l0), (1, .int l1), (2, .int l2)] 3 (l3 + 1) dX12_pairsLeast_75 rfl rfl (by decide) rfl ?_
  refine z_goto 27 dX12_pairsLeast_78 (by decide) ?_
  refine z_lv [(0, .ref l0), (1, .int l1), (2, .int l2), (3, .int (l3 + 1))] [1, 2, 3, 0] rfl ?_
  exact hk27 _ _ _ _ _ hf
set_option maxRecDepth 20000 in
theorem zb_X12_pairsLeast_81 {N : Nat} {sh : Sh} {k14 : Nat → Int32 → Dt → Option Dt} {r : Dt} {E : EV} (hE : TG E none (sh, r)) (hk14 : ∀ (l0 : Nat) (l1 : Int32) (d : Dt), k14 l0 l1 d = some r → Z E yX12_pairsLeast cX12_pairsLeast 4 none 5 (sh, d) 14 [(0, .ref l0), (1, .int l1)] []) {l0 : Nat} {l1 : Int32} {l2 : Int32} {l3 : Int32} {d : Dt} (hf : f_X12_pairsLeast_81 N sh k14 l0 l1 l2 l3 d = some r) : Z E yX12_pairsLeast cX12_pairsLeast 4 none 5 (sh, d) 81 [(0, .ref l0), (1, .int l1), (2, .int l2), (3, .int l3)] [] := by
  unfold f_X12_pairsLeast_81 at hf
  refine z_aload_n 0 dX12_pairsLeast_81 rfl rfl ?_
  refine z_aload_n 0 dX12_pairsLeast_82 rfl rfl ?_
  refine z_gI (ci := 12) (k := 21) (C := RX12) (T := TX12) (N := 32) rfl inlX12 (by decide) mw_48_19 (fun _ _ _ _ h9 => h9) hf (by decide) rfl dX12_pairsLeast_83  (fun v13 hf => ?_)
  refine z_aload_n 0 dX12_pairsLeast_86 rfl rfl ?_
  refine z_gP (ci := 12) (k := 15) (C := RX12) (T := TX12) (N := 32) rfl inlX12 (by decide) mw_7_5 (fun _ _ _ _ h9 => h9) hf (by decide) rfl dX12_pairsLeast_87  (fun v14 hf => ?_)
  refine z_iload_n 2 dX12_pairsLeast_90 rfl rfl ?_
  refine z_aI hf dX12_pairsLeast_91  (fun v15 hf => ?_)
  refine z_aload_n 0 dX12_pairsLeast_92 rfl rfl ?_
  refine z_gP (ci := 12) (k := 15) (C := RX12) (T := TX12) (N := 32) rfl inlX12 (by decide) mw_7_5 (fun _ _ _ _ h9 => h9) hf (by decide) rfl dX12_pairsLeast_93  (fun v16 hf => ?_)
  refine z_iload_n 3 dX12_pairsLeast_96 rfl rfl ?_
  refine z_aI hf dX12_pairsLeast_97  (fun v17 hf => ?_)
  obtain ⟨v18, ev18, hf⟩ := ob hf
  refine z_cVv (ci := 12) (T := TX12) (N := 32) (As := [.int v13, .int v15, .int v17]) (rest := []) (zm_X12_pairsUp ev18).2 (zm_X12_pairsUp ev18).1 (by decide) rfl (Or.inl rfl) mw_50_13 mw_50_14 mw_50_15 mw_1_5 mw_50_16 yk_X12_pairsUp (by decide) (by decide) rfl (Nat.le_of_ble_eq_true rfl) rfl dX12_pairsLeast_98 ?_
  refine z_aload_n 0 dX12_pairsLeast_101 rfl rfl ?_
  refine z_dup dX12_pairsLeast_102 rfl ?_
  refine z_gI (ci := 12) (k := 21) (C := RX12) (T := TX12) (N := 32) rfl inlX12 (by decide) mw_48_19 (fun _ _ _ _ h9 => h9) hf (by decide) rfl dX12_pairsLeast_103  (fun v19 hf => ?_)
  refine z_iconst 1 1 dX12_pairsLeast_106 (by decide) ?_
  refine z_iadd dX12_pairsLeast_107 ?_
  refine z_pI (ci := 12) (k := 21) (C := RX12) (T := TX12) (N := 32) rfl inlX12 (by decide) mw_48_19 (fun _ _ _ _ h9 => h9) tyX12 tyX12_ok nmX12 rfl hf (Or.inl (by decide)) rfl rfl rfl dX12_pairsLeast_108  (fun d20 hf => ?_)
  refine z_iload_n 1 dX12_pairsLeast_111 rfl rfl ?_
  refine z_iconst 1 1 dX12_pairsLeast_112 (by decide) ?_
  refine z_iload_n 2 dX12_pairsLeast_113 rfl rfl ?_
  refine z_ishl dX12_pairsLeast_114 ?_
  refine z_iconst 1 1 dX12_pairsLeast_115 (by decide) ?_
  refine z_iload_n 3 dX12_pairsLeast_116 rfl rfl ?_
  refine z_ishl dX12_pairsLeast_117 ?_
  refine z_ixor dX12_pairsLeast_118 ?_
  refine z_ixor dX12_pairsLeast_119 ?_
  refine z_istore_n [(1, .int (l1 ^^^ (((1 : Int32) <<< (l2 &&& 31)) ^^^ ((1 : Int32) <<< (l3 &&& 31))))), (0, .ref l0), (2, .int l2), (3, .int l3)] dX12_pairsLeast_120 rfl (by decide) rfl ?_
  refine z_goto 14 dX12_pairsLeast_121 (by decide) ?_
  refine z_lv [(0, .ref l0), (1, .int (l1 ^^^ (((1 : Int32) <<< (l2 &&& 31)) ^^^ ((1 : Int32) <<< (l3 &&& 31)))))] [1, 0] rfl ?_
  exact hk14 _ _ _ hf
set_option maxRecDepth 20000 in
theorem zg_X12_pairsLeast_27 {N : Nat} {sh : Sh} {k14 : Nat → Int32 → Dt → Option Dt} {r : Dt} {k27 : Nat → Int32 → Int32 → Int32 → Dt → Option Dt} {E : EV} (hE : TG E none (sh, r)) (hk14 : ∀ (l0 : Nat) (l1 : Int32) (d : Dt), k14 l0 l1 d = some r → Z E yX12_pairsLeast cX12_pairsLeast 4 none 5 (sh, d) 14 [(0, .ref l0), (1, .int l1)] []) (hk27 : ∀ (l0 : Nat) (l1 : Int32) (l2 : Int32) (l3 : Int32) (d : Dt), k27 l0 l1 l2 l3 d = some r → Z E yX12_pairsLeast cX12_pairsLeast 4 none 5 (sh, d) 27 [(0, .ref l0), (1, .int l1), (2, .int l2), (3, .int l3)] []) {l0 : Nat} {l1 : Int32} {l2 : Int32} {l3 : Int32} {d : Dt} (hf : g_X12_pairsLeast_27 N sh k14 k27 l0 l1 l2 l3 d = some r) : Z E yX12_pairsLeast cX12_pairsLeast 4 none 5 (sh, d) 27 [(0, .ref l0), (1, .int l1), (2, .int l2), (3, .int l3)] [] := by
  unfold g_X12_pairsLeast_27 at hf
  refine z_iload_n 1 dX12_pairsLeast_27 rfl rfl ?_
  refine z_iload_n 3 dX12_pairsLeast_28 rfl rfl ?_
  refine z_ishr dX12_pairsLeast_29 ?_
  refine z_iconst 1 1 dX12_pairsLeast_30 (by decide) ?_
  refine z_iand dX12_pairsLeast_31 ?_
  refine z_if_eq 75 hf dX12_pairsLeast_32 (by decide) (fun hf => ?_) (fun hf => ?_)
  · exact zb_X12_pairsLeast_75 hE hk14 hk27 hf
  · refine z_aload_n 0 dX12_pairsLeast_35 rfl rfl ?_
    refine z_aload_n 0 dX12_pairsLeast_36 rfl rfl ?_
    refine z_gP (ci := 12) (k := 15) (C := RX12) (T := TX12) (N := 32) rfl inlX12 (by decide) mw_7_5 (fun _ _ _ _ h9 => h9) hf (by decide) rfl dX12_pairsLeast_37  (fun v4 hf => ?_)
    refine z_iload_n 2 dX12_pairsLeast_40 rfl rfl ?_
    refine z_aI hf dX12_pairsLeast_41  (fun v5 hf => ?_)
    refine z_aload_n 0 dX12_pairsLeast_42 rfl rfl ?_
    refine z_gP (ci := 12) (k := 15) (C := RX12) (T := TX12) (N := 32) rfl inlX12 (by decide) mw_7_5 (fun _ _ _ _ h9 => h9) hf (by decide) rfl dX12_pairsLeast_43  (fun v6 hf => ?_)
    refine z_iload_n 3 dX12_pairsLeast_46 rfl rfl ?_
    refine z_aI hf dX12_pairsLeast_47  (fun v7 hf => ?_)
    obtain ⟨v8, ev8, hf⟩ := ob hf
    refine z_cVi (ci := 12) (T := TX12) (N := 32) (As := [.int v5, .int v7]) (rest := []) (zm_X12_between ev8).2 (zm_X12_between ev8).1 (by decide) rfl (Or.inl rfl) mw_42_23 mw_43_0 mw_43_1 mw_1_5 mw_43_2 yk_X12_between (by decide) (by decide) rfl (Nat.le_of_ble_eq_true rfl) rfl dX12_pairsLeast_48 ?_
    refine z_aload_n 0 dX12_pairsLeast_51 rfl rfl ?_
    refine z_gP (ci := 12) (k := 18) (C := RX12) (T := TX12) (N := 32) rfl inlX12 (by decide) mw_7_7 (fun _ _ _ _ h9 => h9) hf (by decide) rfl dX12_pairsLeast_52  (fun v9 hf => ?_)
    refine z_iload_n 1 dX12_pairsLeast_55 rfl rfl ?_
    refine z_iconst 1 1 dX12_pairsLeast_56 (by decide) ?_
    refine z_iload_n 2 dX12_pairsLeast_57 rfl rfl ?_
    refine z_ishl dX12_pairsLeast_58 ?_
    refine z_ixor dX12_pairsLeast_59 ?_
    refine z_iconst 1 1 dX12_pairsLeast_60 (by decide) ?_
    refine z_iload_n 3 dX12_pairsLeast_61 rfl rfl ?_
    refine z_ishl dX12_pairsLeast_62 ?_
    refine z_ixor dX12_pairsLeast_63 ?_
    refine z_aI hf dX12_pairsLeast_64  (fun v10 hf => ?_)
    refine z_iadd dX12_pairsLeast_65 ?_
    refine z_aload_n 0 dX12_pairsLeast_66 rfl rfl ?_
    refine z_gP (ci := 12) (k := 18) (C := RX12) (T := TX12) (N := 32) rfl inlX12 (by decide) mw_7_7 (fun _ _ _ _ h9 => h9) hf (by decide) rfl dX12_pairsLeast_67  (fun v11 hf => ?_)
    refine z_iload_n 1 dX12_pairsLeast_70 rfl rfl ?_
    refine z_aI hf dX12_pairsLeast_71  (fun v12 hf => ?_)
    refine z_icmp_eq 81 hf dX12_pairsLeast_72 (by decide) (fun hf => ?_) (fun hf => ?_)
    · exact zb_X12_pairsLeast_81 hE hk14 hf
    · exact zb_X12_pairsLeast_75 hE hk14 hk27 hf
set_option maxRecDepth 20000 in
theorem zb_X12_pairsLeast_27 {N : Nat} {sh : Sh} {k14 : Nat → Int32 → Dt → Option Dt} {r : Dt} {E : EV} (hE : TG E none (sh, r)) (hk14 : ∀ (l0 : Nat) (l1 : Int32) (d : Dt), k14 l0 l1 d = some r → Z E yX12_pairsLeast cX12_pairsLeast 4 none 5 (sh, d) 14 [(0, .ref l0), (1, .int l1)] []) : ∀ (n : Nat) (l0 : Nat) (l1 : Int32) (l2 : Int32) (l3 : Int32) (d : Dt), f_X12_pairsLeast_27 N sh k14 n l0 l1 l2 l3 d = some r → Z E yX12_pairsLeast cX12_pairsLeast 4 none 5 (sh, d) 27 [(0, .ref l0), (1, .int l1), (2, .int l2), (3, .int l3)] [] := by
  intro n
  induction n with
  | zero => intro l0 l1 l2 l3 d hf; cases hf
  | succ n ih => intro l0 l1 l2 l3 d hf; exact zg_X12_pairsLeast_27 hE hk14 ih hf
set_option maxRecDepth 20000 in
theorem zg_X12_pairsLeast_14 {N : Nat} {sh : Sh} {r : Dt} {k14 : Nat → Int32 → Dt → Option Dt} {E : EV} (hE : TG E none (sh, r))  (hk14 : ∀ (l0 : Nat) (l1 : Int32) (d : Dt), k14 l0 l1 d = some r → Z E yX12_pairsLeast cX12_pairsLeast 4 none 5 (sh, d) 14 [(0, .ref l0), (1, .int l1)] []) {l0 : Nat} {l1 : Int32} {d : Dt} (hf : g_X12_pairsLeast_14 N sh k14 l0 l1 d = some r) : Z E yX12_pairsLeast cX12_pairsLeast 4 none 5 (sh, d) 14 [(0, .ref l0), (1, .int l1)] [] := by
  unfold g_X12_pairsLeast_14 at hf
  refine z_iload_n 1 dX12_pairsLeast_14 rfl rfl ?_
  refine z_if_eq 124 hf dX12_pairsLeast_15 (by decide) (fun hf => ?_) (fun hf => ?_)
  · refine z_lv [] [] rfl ?_
    exact zb_X12_pairsLeast_124 hE hf
  · refine z_iload_n 1 dX12_pairsLeast_18 rfl rfl ?_
    obtain ⟨v3, ev3, hf⟩ := ob hf
    refine z_cTi (As := [.int l1]) (rest := []) (zm_X12_lowest ev3) (Or.inl rfl) mw_42_20 mw_42_21 mw_1_5 mw_42_22 yk_X12_lowest (by decide) (by decide) rfl (Nat.le_of_ble_eq_true rfl) rfl dX12_pairsLeast_19 ?_
    refine z_istore_n [(2, .int v3), (0, .ref l0), (1, .int l1)] dX12_pairsLeast_22 rfl (by decide) rfl ?_
    refine z_iload_n 0 dX12_pairsLeast_23 rfl rfl ?_
    refine z_iconst 1 1 dX12_pairsLeast_24 (by decide) ?_
    refine z_iadd dX12_pairsLeast_25 ?_
    refine z_istore_n [(3, .int (v3 + (1 : Int32))), (2, .int v3), (0, .ref l0), (1, .int l1)] dX12_pairsLeast_26 rfl (by decide) rfl ?_
    refine z_lv [(0, .ref l0), (1, .int l1), (2, .int v3), (3, .int (v3 + (1 : Int32)))] [2, 3, 1, 0] rfl ?_
    exact zb_X12_pairsLeast_27 hE hk14 N _ _ _ _ _ hf
set_option maxRecDepth 20000 in
theorem zb_X12_pairsLeast_14 {N : Nat} {sh : Sh} {r : Dt} {E : EV} (hE : TG E none (sh, r))  : ∀ (n : Nat) (l0 : Nat) (l1 : Int32) (d : Dt), f_X12_pairsLeast_14 N sh n l0 l1 d = some r → Z E yX12_pairsLeast cX12_pairsLeast 4 none 5 (sh, d) 14 [(0, .ref l0), (1, .int l1)] [] := by
  intro n
  induction n with
  | zero => intro l0 l1 d hf; cases hf
  | succ n ih => intro l0 l1 d hf; exact zg_X12_pairsLeast_14 hE ih hf
set_option maxRecDepth 20000 in
theorem zm_X12_pairsLeast {N : Nat} {sh : Sh} {d : Dt} {l0 : Nat} {r : Dt} (hf : f_X12_pairsLeast N sh l0 d = some r) : isO sh l0 12 ∧ ∀ (l : Launch) (G : GG), Mt l G yX12_pairsLeast cX12_pairsLeast 4 none 5 [.ref l0] (sh, d) none (sh, r) := by
  have hf0 := hf
  unfold f_X12_pairsLeast at hf
  refine ite_d hf (fun hO hf => ?_) (fun _ hf => ?_)
  · refine ⟨hO, fun l G => mt_of (Or.inl (by decide)) (Nat.le_of_ble_eq_true rfl) Le.rf (fun E hE => ?_)⟩
    show Z E yX12_pairsLeast cX12_pairsLeast 4 none 5 (sh, d) 0 [(0, .ref l0)] []
    refine z_iconst 1 1 dX12_pairsLeast_0 (by decide) ?_
    refine z_aload_n 0 dX12_pairsLeast_1 rfl rfl ?_
    refine z_gI (ci := 12) (k := 16) (C := RX12) (T := TX12) (N := 32) rfl inlX12 (by decide) mw_40_8 (fun _ _ _ _ h9 => h9) hf (by decide) rfl dX12_pairsLeast_2  (fun v1 hf => ?_)
    refine z_ishl dX12_pairsLeast_5 ?_
    refine z_iconst 1 1 dX12_pairsLeast_6 (by decide) ?_
    refine z_isub dX12_pairsLeast_7 ?_
    refine z_istore_n [(1, .int (((1 : Int32) <<< (v1 &&& 31)) - (1 : Int32))), (0, .ref l0)] dX12_pairsLeast_8 rfl (by decide) rfl ?_
    refine z_aload_n 1 dX12_pairsLeast_9 rfl rfl ?_
    refine z_iload_n 0 dX12_pairsLeast_10 rfl rfl ?_
    obtain ⟨v2, ev2, hf⟩ := ob hf
    refine z_cVv (ci := 12) (T := TX12) (N := 32) (As := [.int (((1 : Int32) <<< (v1 &&& 31)) - (1 : Int32))]) (rest := []) (zm_X12_findLeast ev2).2 (zm_X12_findLeast ev2).1 (by decide) rfl (Or.inl rfl) mw_42_12 mw_42_13 mw_42_14 mw_1_5 mw_42_15 yk_X12_findLeast (by decide) (by decide) rfl (Nat.le_of_ble_eq_true rfl) rfl dX12_pairsLeast_11 ?_
    refine z_lv [(0, .ref l0), (1, .int (((1 : Int32) <<< (v1 &&& 31)) - (1 : Int32)))] [1, 0] rfl ?_
    exact zb_X12_pairsLeast_14 hE N _ _ _ hf
  · cases hf
set_option maxRecDepth 20000 in
theorem zb_X12_part_37 {N : Nat} {sh : Sh} {r : Int32 × Dt} {E : EV} (hE : TG E (some (.int r.1)) (sh, r.2))  {t0 : Int32} {d : Dt} (hf : f_X12_part_37 N sh t0 d = some r) : Z E yX12_part cX12_part 3 (some .int) 3 (sh, d) 37 [] [.int t0] := by
  unfold f_X12_part_37 at hf
  cases hf
  exact z_ireturn hE rfl dX12_part_37
set_option maxRecDepth 20000 in
theorem zb_X12_part_18 {N : Nat} {sh : Sh} {r : Int32 × Dt} {E : EV} (hE : TG E (some (.int r.1)) (sh, r.2))  {l0 : Nat} {d : Dt} (hf : f_X12_part_18 N sh l0 d = some r) : Z E yX12_part cX12_part 3 (some .int) 3 (sh, d) 18 [(0, .ref l0)] [] := by
  unfold f_X12_part_18 at hf
  refine z_aload_n 0 dX12_part_18 rfl rfl ?_
  refine z_bipush (-2) (-2) dX12_part_19 (by decide) ?_
  obtain ⟨v5, ev5, hf⟩ := ob hf
  refine z_cVi (ci := 12) (T := TX12) (N := 32) (As := [.int (-2 : Int32)]) (rest := []) (zm_X12_refuses ev5).2 (zm_X12_refuses ev5).1 (by decide) rfl (Or.inl rfl) mw_11_14 mw_11_15 mw_11_16 mw_1_5 mw_11_17 yk_X12_refuses (by decide) (by decide) rfl (Nat.le_of_ble_eq_true rfl) rfl dX12_part_21 ?_
  refine z_goto 37 dX12_part_24 (by decide) ?_
  refine z_lv [] [] rfl ?_
  exact zb_X12_part_37 hE hf
set_option maxRecDepth 20000 in
theorem zm_X12_part {N : Nat} {sh : Sh} {d : Dt} {l0 : Nat} {l1 : Int32} {l2 : Int32} {r : Int32 × Dt} (hf : f_X12_part N sh l0 l1 l2 d = some r) : isO sh l0 12 ∧ ∀ (l : Launch) (G : GG), Mt l G yX12_part cX12_part 3 (some .int) 3 [.ref l0, .int l1, .int l2] (sh, d) (some (.int r.1)) (sh, r.2) := by
  have hf0 := hf
  unfold f_X12_part at hf
  refine ite_d hf (fun hO hf => ?_) (fun _ hf => ?_)
  · refine ⟨hO, fun l G => mt_of (Or.inl (by decide)) (Nat.le_of_ble_eq_true rfl) Le.rf (fun E hE => ?_)⟩
    show Z E yX12_part cX12_part 3 (some .int) 3 (sh, d) 0 [(0, .ref l0), (1, .int l1), (2, .int l2)] []
    refine z_aload_n 0 dX12_part_0 rfl rfl ?_
    refine z_iload_n 1 dX12_part_1 rfl rfl ?_
    obtain ⟨v1, ev1, hf⟩ := ob hf
    refine z_cVi (ci := 12) (T := TX12) (N := 32) (As := [.int l1]) (rest := []) (zm_X12_isPlough ev1).2 (zm_X12_isPlough ev1).1 (by decide) rfl (Or.inl rfl) mw_32_23 mw_33_0 mw_33_1 mw_1_5 mw_33_2 yk_X12_isPlough (by decide) (by decide) rfl (Nat.le_of_ble_eq_true rfl) rfl dX12_part_2 ?_
    refine z_if_eq 18 hf dX12_part_5 (by decide) (fun hf => ?_) (fun hf => ?_)
    · refine z_lv [(0, .ref l0)] [0] rfl ?_
      exact zb_X12_part_18 hE hf
    · refine z_iload_n 2 dX12_part_8 rfl rfl ?_
      refine z_iconst 0 0 dX12_part_9 (by decide) ?_
      refine z_bipush 8 8 dX12_part_10 (by decide) ?_
      obtain ⟨v2, ev2, hf⟩ := ob hf
      refine z_cTi (As := [.int l2, .int (0 : Int32), .int (8 : Int32)]) (rest := []) (zm_X12_in ev2) (Or.inl rfl) mw_11_11 mw_11_12 mw_1_5 mw_11_13 yk_X12_in (by decide) (by decide) rfl (Nat.le_of_ble_eq_true rfl) rfl dX12_part_12 ?_
      refine z_if_ne 27 hf dX12_part_15 (by decide) (fun hf => ?_) (fun hf => ?_)
      · refine z_aload_n 0 dX12_part_27 rfl rfl ?_
        refine z_aload_n 0 dX12_part_28 rfl rfl ?_
        refine z_iload_n 1 dX12_part_29 rfl rfl ?_
        refine z_iload_n 2 dX12_part_30 rfl rfl ?_
        obtain ⟨v3, ev3, hf⟩ := ob hf
        refine z_cVi (ci := 12) (T := TX12) (N := 32) (As := [.int l1, .int l2]) (rest := [.ref l0]) (zm_X12_partAt ev3).2 (zm_X12_partAt ev3).1 (by decide) rfl (Or.inl rfl) mw_53_19 mw_53_20 mw_53_21 mw_1_5 mw_53_22 yk_X12_partAt (by decide) (by decide) rfl (Nat.le_of_ble_eq_true rfl) rfl dX12_part_31 ?_
        obtain ⟨v4, ev4, hf⟩ := ob hf
        refine z_cVi (ci := 12) (T := TX12) (N := 32) (As := [.int v3]) (rest := []) (zm_X12_says ev4).2 (zm_X12_says ev4).1 (by decide) rfl (Or.inl rfl) mw_12_4 mw_12_5 mw_12_6 mw_1_5 mw_12_7 yk_X12_says (by decide) (by decide) rfl (Nat.le_of_ble_eq_true rfl) rfl dX12_part_34 ?_
        refine z_lv [] [] rfl ?_
        exact zb_X12_part_37 hE hf
      · refine z_lv [(0, .ref l0)] [0] rfl ?_
        exact zb_X12_part_18 hE hf
  · cases hf
set_option maxRecDepth 20000 in
theorem zb_X12_partner_31 {N : Nat} {sh : Sh} {r : Int32 × Dt} {E : EV} (hE : TG E (some (.int r.1)) (sh, r.2))  {t0 : Int32} {d : Dt} (hf : f_X12_partner_31 N sh t0 d = some r) : Z E yX12_partner cX12_partner 2 (some .int) 3 (sh, d) 31 [] [.int t0] := by
  unfold f_X12_partner_31 at hf
  cases hf
  exact z_ireturn hE rfl dX12_partner_31
set_option maxRecDepth 20000 in
theorem zm_X12_partner {N : Nat} {sh : Sh} {d : Dt} {l0 : Nat} {l1 : Int32} {r : Int32 × Dt} (hf : f_X12_partner N sh l0 l1 d = some r) : isO sh l0 12 ∧ ∀ (l : Launch) (G : GG), Mt l G yX12_partner cX12_partner 2 (some .int) 3 [.ref l0, .int l1] (sh, d) (some (.int r.1)) (sh, r.2) := by
  have hf0 := hf
  unfold f_X12_partner at hf
  refine ite_d hf (fun hO hf => ?_) (fun _ hf => ?_)
  · refine ⟨hO, fun l G => mt_of (Or.inl (by decide)) (Nat.le_of_ble_eq_true rfl) Le.rf (fun E hE => ?_)⟩
    show Z E yX12_partner cX12_partner 2 (some .int) 3 (sh, d) 0 [(0, .ref l0), (1, .int l1)] []
    refine z_aload_n 0 dX12_partner_0 rfl rfl ?_
    refine z_iload_n 1 dX12_partner_1 rfl rfl ?_
    obtain ⟨v1, ev1, hf⟩ := ob hf
    refine z_cVi (ci := 12) (T := TX12) (N := 32) (As := [.int l1]) (rest := []) (zm_X12_isCrossing ev1).2 (zm_X12_isCrossing ev1).1 (by decide) rfl (Or.inl rfl) mw_13_6 mw_13_7 mw_13_8 mw_1_5 mw_13_9 yk_X12_isCrossing (by decide) (by decide) rfl (Nat.le_of_ble_eq_true rfl) rfl dX12_partner_2 ?_
    refine z_if_eq 25 hf dX12_partner_5 (by decide) (fun hf => ?_) (fun hf => ?_)
    · refine z_aload_n 0 dX12_partner_25 rfl rfl ?_
      refine z_bipush (-2) (-2) dX12_partner_26 (by decide) ?_
      obtain ⟨v2, ev2, hf⟩ := ob hf
      refine z_cVi (ci := 12) (T := TX12) (N := 32) (As := [.int (-2 : Int32)]) (rest := []) (zm_X12_refuses ev2).2 (zm_X12_refuses ev2).1 (by decide) rfl (Or.inl rfl) mw_11_14 mw_11_15 mw_11_16 mw_1_5 mw_11_17 yk_X12_refuses (by decide) (by decide) rfl (Nat.le_of_ble_eq_true rfl) rfl dX12_partner_28 ?_
      refine z_lv [] [] rfl ?_
      exact zb_X12_partner_31 hE hf
    · refine z_aload_n 0 dX12_partner_8 rfl rfl ?_
      refine z_aload_n 0 dX12_partner_9 rfl rfl ?_
      refine z_gP (ci := 12) (k := 0) (C := RX12) (T := TX12) (N := 32) rfl inlX12 (by decide) mw_6_19 (fun _ _ _ _ h9 => h9) hf (by decide) rfl dX12_partner_10  (fun v3 hf => ?_)
      refine z_sipush 9582 9582 dX12_partner_13 (by decide) ?_
      refine z_iload_n 1 dX12_partner_16 rfl rfl ?_
      refine z_iadd dX12_partner_17 ?_
      refine z_aI hf dX12_partner_18  (fun v4 hf => ?_)
      obtain ⟨v5, ev5, hf⟩ := ob hf
      refine z_cVi (ci := 12) (T := TX12) (N := 32) (As := [.int v4]) (rest := []) (zm_X12_says ev5).2 (zm_X12_says ev5).1 (by decide) rfl (Or.inl rfl) mw_12_4 mw_12_5 mw_12_6 mw_1_5 mw_12_7 yk_X12_says (by decide) (by decide) rfl (Nat.le_of_ble_eq_true rfl) rfl dX12_partner_19 ?_
      refine z_goto 31 dX12_partner_22 (by decide) ?_
      refine z_lv [] [] rfl ?_
      exact zb_X12_partner_31 hE hf
  · cases hf
set_option maxRecDepth 20000 in
theorem zb_X12_plough_20 {N : Nat} {sh : Sh} {r : Int32 × Dt} {E : EV} (hE : TG E (some (.int r.1)) (sh, r.2))  {l0 : Nat} {d : Dt} (hf : f_X12_plough_20 N sh l0 d = some r) : Z E yX12_plough cX12_plough 3 (some .int) 3 (sh, d) 20 [(0, .ref l0)] [] := by
  unfold f_X12_plough_20 at hf
  refine z_aload_n 0 dX12_plough_20 rfl rfl ?_
  refine z_bipush (-2) (-2) dX12_plough_21 (by decide) ?_
  obtain ⟨v8, ev8, hf⟩ := ob hf
  refine z_cVi (ci := 12) (T := TX12) (N := 32) (As := [.int (-2 : Int32)]) (rest := []) (zm_X12_refuses ev8).2 (zm_X12_refuses ev8).1 (by decide) rfl (Or.inl rfl) mw_11_14 mw_11_15 mw_11_16 mw_1_5 mw_11_17 yk_X12_refuses (by decide) (by decide) rfl (Nat.le_of_ble_eq_true rfl) rfl dX12_plough_23 ?_
  cases hf
  exact z_ireturn hE rfl dX12_plough_26
set_option maxRecDepth 20000 in
theorem zm_X12_plough {N : Nat} {sh : Sh} {d : Dt} {l0 : Nat} {l1 : Int32} {l2 : Int32} {r : Int32 × Dt} (hf : f_X12_plough N sh l0 l1 l2 d = some r) : isO sh l0 12 ∧ ∀ (l : Launch) (G : GG), Mt l G yX12_plough cX12_plough 3 (some .int) 3 [.ref l0, .int l1, .int l2] (sh, d) (some (.int r.1)) (sh, r.2) := by
  have hf0 := hf
  unfold f_X12_plough at hf
  refine ite_d hf (fun hO hf => ?_) (fun _ hf => ?_)
  · refine ⟨hO, fun l G => mt_of (Or.inl (by decide)) (Nat.le_of_ble_eq_true rfl) Le.rf (fun E hE => ?_)⟩
    show Z E yX12_plough cX12_plough 3 (some .int) 3 (sh, d) 0 [(0, .ref l0), (1, .int l1), (2, .int l2)] []
    refine z_iload_n 1 dX12_plough_0 rfl rfl ?_
    refine z_iconst 0 0 dX12_plough_1 (by decide) ?_
    refine z_iconst 3 3 dX12_plough_2 (by decide) ?_
    obtain ⟨v1, ev1, hf⟩ := ob hf
    refine z_cTi (As := [.int l1, .int (0 : Int32), .int (3 : Int32)]) (rest := []) (zm_X12_in ev1) (Or.inl rfl) mw_11_11 mw_11_12 mw_1_5 mw_11_13 yk_X12_in (by decide) (by decide) rfl (Nat.le_of_ble_eq_true rfl) rfl dX12_plough_3 ?_
    refine z_if_eq 20 hf dX12_plough_6 (by decide) (fun hf => ?_) (fun hf => ?_)
    · refine z_lv [(0, .ref l0)] [0] rfl ?_
      exact zb_X12_plough_20 hE hf
    · refine z_iload_n 2 dX12_plough_9 rfl rfl ?_
      refine z_iconst 0 0 dX12_plough_10 (by decide) ?_
      refine z_sipush 10000 10000 dX12_plough_11 (by decide) ?_
      obtain ⟨v2, ev2, hf⟩ := ob hf
      refine z_cTi (As := [.int l2, .int (0 : Int32), .int (10000 : Int32)]) (rest := []) (zm_X12_in ev2) (Or.inl rfl) mw_11_11 mw_11_12 mw_1_5 mw_11_13 yk_X12_in (by decide) (by decide) rfl (Nat.le_of_ble_eq_true rfl) rfl dX12_plough_14 ?_
      refine z_if_ne 27 hf dX12_plough_17 (by decide) (fun hf => ?_) (fun hf => ?_)
      · refine z_aload_n 0 dX12_plough_27 rfl rfl ?_
        refine z_gP (ci := 12) (k := 0) (C := RX12) (T := TX12) (N := 32) rfl inlX12 (by decide) mw_6_19 (fun _ _ _ _ h9 => h9) hf (by decide) rfl dX12_plough_28  (fun v3 hf => ?_)
        refine z_iconst 3 3 dX12_plough_31 (by decide) ?_
        refine z_aI hf dX12_plough_32  (fun v4 hf => ?_)
        refine z_bipush 12 12 dX12_plough_33 (by decide) ?_
        refine z_icmp_ne 45 hf dX12_plough_35 (by decide) (fun hf => ?_) (fun hf => ?_)
        · refine z_aload_n 0 dX12_plough_45 rfl rfl ?_
          obtain ⟨v5, ev5, hf⟩ := ob hf
          refine z_cVv (ci := 12) (T := TX12) (N := 32) (As := []) (rest := []) (zm_X12_keeps ev5).2 (zm_X12_keeps ev5).1 (by decide) rfl (Or.inl rfl) mw_11_23 mw_12_0 mw_12_1 mw_1_5 mw_12_2 yk_X12_keeps (by decide) (by decide) rfl (Nat.le_of_ble_eq_true rfl) rfl dX12_plough_46 ?_
          refine z_aload_n 0 dX12_plough_49 rfl rfl ?_
          refine z_iload_n 1 dX12_plough_50 rfl rfl ?_
          refine z_iload_n 2 dX12_plough_51 rfl rfl ?_
          refine z_iconst (-1) (-1) dX12_plough_52 (by decide) ?_
          refine z_iconst (-1) (-1) dX12_plough_53 (by decide) ?_
          obtain ⟨v6, ev6, hf⟩ := ob hf
          refine z_cVi (ci := 12) (T := TX12) (N := 32) (As := [.int l1, .int l2, .int (-1 : Int32), .int (-1 : Int32)]) (rest := []) (zm_X12_comes ev6).2 (zm_X12_comes ev6).1 (by decide) rfl (Or.inl rfl) mw_31_2 mw_31_3 mw_31_4 mw_1_5 mw_31_5 yk_X12_comes (by decide) (by decide) rfl (Nat.le_of_ble_eq_true rfl) rfl dX12_plough_54 ?_
          cases hf
          exact z_ireturn hE rfl dX12_plough_57
        · refine z_aload_n 0 dX12_plough_38 rfl rfl ?_
          refine z_bipush (-3) (-3) dX12_plough_39 (by decide) ?_
          obtain ⟨v7, ev7, hf⟩ := ob hf
          refine z_cVi (ci := 12) (T := TX12) (N := 32) (As := [.int (-3 : Int32)]) (rest := []) (zm_X12_refuses ev7).2 (zm_X12_refuses ev7).1 (by decide) rfl (Or.inl rfl) mw_11_14 mw_11_15 mw_11_16 mw_1_5 mw_11_17 yk_X12_refuses (by decide) (by decide) rfl (Nat.le_of_ble_eq_true rfl) rfl dX12_plough_41 ?_
          cases hf
          exact z_ireturn hE rfl dX12_plough_44
      · refine z_lv [(0, .ref l0)] [0] rfl ?_
        exact zb_X12_plough_20 hE hf
  · cases hf
set_option maxRecDepth 20000 in
theorem zb_X12_read_44 {N : Nat} {sh : Sh} {r : Int32 × Dt} {E : EV} (hE : TG E (some (.int r.1)) (sh, r.2))  {t0 : Int32} {d : Dt} (hf : f_X12_read_44 N sh t0 d = some r) : Z E yX12_read cX12_read 4 (some .int) 4 (sh, d) 44 [] [.int t0] := by
  unfold f_X12_read_44 at hf
  cases hf
  exact z_ireturn hE rfl dX12_read_44
set_option maxRecDepth 20000 in
theorem zm_X12_read {N : Nat} {sh : Sh} {d : Dt} {l0 : Nat} {l1 : Int32} {l2 : Int32} {r : Int32 × Dt} (hf : f_X12_read N sh l0 l1 l2 d = some r) : isO sh l0 12 ∧ ∀ (l : Launch) (G : GG), Mt l G yX12_read cX12_read 4 (some .int) 4 [.ref l0, .int l1, .int l2] (sh, d) (some (.int r.1)) (sh, r.2) := by
  have hf0 := hf
  unfold f_X12_read at hf
  refine ite_d hf (fun hO hf => ?_) (fun _ hf => ?_)
  · refine ⟨hO, fun l G => mt_of (Or.inl (by decide)) (Nat.le_of_ble_eq_true rfl) Le.rf (fun E hE => ?_)⟩
    show Z E yX12_read cX12_read 4 (some .int) 4 (sh, d) 0 [(0, .ref l0), (1, .int l1), (2, .int l2)] []
    refine z_aload_n 0 dX12_read_0 rfl rfl ?_
    refine z_iload_n 1 dX12_read_1 rfl rfl ?_
    obtain ⟨v1, ev1, hf⟩ := ob hf
    refine z_cVi (ci := 12) (T := TX12) (N := 32) (As := [.int l1]) (rest := []) (zm_X12_isGauge ev1).2 (zm_X12_isGauge ev1).1 (by decide) rfl (Or.inl rfl) mw_21_9 mw_21_10 mw_21_11 mw_1_5 mw_21_12 yk_X12_isGauge (by decide) (by decide) rfl (Nat.le_of_ble_eq_true rfl) rfl dX12_read_2 ?_
    refine z_if_ne 15 hf dX12_read_5 (by decide) (fun hf => ?_) (fun hf => ?_)
    · refine z_aload_n 0 dX12_read_15 rfl rfl ?_
      refine z_iload_n 1 dX12_read_16 rfl rfl ?_
      refine z_iload_n 2 dX12_read_17 rfl rfl ?_
      obtain ⟨v2, ev2, hf⟩ := ob hf
      refine z_cVi (ci := 12) (T := TX12) (N := 32) (As := [.int l1, .int l2]) (rest := []) (zm_X12_bars ev2).2 (zm_X12_bars ev2).1 (by decide) rfl (Or.inl rfl) mw_23_8 mw_23_9 mw_23_10 mw_1_5 mw_23_11 yk_X12_bars (by decide) (by decide) rfl (Nat.le_of_ble_eq_true rfl) rfl dX12_read_18 ?_
      refine z_istore_n [(3, .int v2), (0, .ref l0), (1, .int l1), (2, .int l2)] dX12_read_21 rfl (by decide) rfl ?_
      refine z_iload_n 0 dX12_read_22 rfl rfl ?_
      refine z_if_eq 34 hf dX12_read_23 (by decide) (fun hf => ?_) (fun hf => ?_)
      · refine z_aload_n 1 dX12_read_34 rfl rfl ?_
        refine z_aload_n 1 dX12_read_35 rfl rfl ?_
        refine z_iload_n 2 dX12_read_36 rfl rfl ?_
        refine z_iload_n 3 dX12_read_37 rfl rfl ?_
        obtain ⟨v3, ev3, hf⟩ := ob hf
        refine z_cVi (ci := 12) (T := TX12) (N := 32) (As := [.int l1, .int l2]) (rest := [.ref l0]) (zm_X12_tells ev3).2 (zm_X12_tells ev3).1 (by decide) rfl (Or.inl rfl) mw_24_20 mw_24_21 mw_24_22 mw_1_5 mw_24_23 yk_X12_tells (by decide) (by decide) rfl (Nat.le_of_ble_eq_true rfl) rfl dX12_read_38 ?_
        obtain ⟨v4, ev4, hf⟩ := ob hf
        refine z_cVi (ci := 12) (T := TX12) (N := 32) (As := [.int v3]) (rest := []) (zm_X12_says ev4).2 (zm_X12_says ev4).1 (by decide) rfl (Or.inl rfl) mw_12_4 mw_12_5 mw_12_6 mw_1_5 mw_12_7 yk_X12_says (by decide) (by decide) rfl (Nat.le_of_ble_eq_true rfl) rfl dX12_read_41 ?_
        refine z_lv [] [] rfl ?_
        exact zb_X12_read_44 hE hf
      · refine z_aload_n 1 dX12_read_26 rfl rfl ?_
        refine z_iload_n 0 dX12_read_27 rfl rfl ?_
        obtain ⟨v5, ev5, hf⟩ := ob hf
        refine z_cVi (ci := 12) (T := TX12) (N := 32) (As := [.int v2]) (rest := []) (zm_X12_refuses ev5).2 (zm_X12_refuses ev5).1 (by decide) rfl (Or.inl rfl) mw_11_14 mw_11_15 mw_11_16 mw_1_5 mw_11_17 yk_X12_refuses (by decide) (by decide) rfl (Nat.le_of_ble_eq_true rfl) rfl dX12_read_28 ?_
        refine z_goto 44 dX12_read_31 (by decide) ?_
        refine z_lv [] [] rfl ?_
        exact zb_X12_read_44 hE hf
    · refine z_aload_n 0 dX12_read_8 rfl rfl ?_
      refine z_bipush (-2) (-2) dX12_read_9 (by decide) ?_
      obtain ⟨v6, ev6, hf⟩ := ob hf
      refine z_cVi (ci := 12) (T := TX12) (N := 32) (As := [.int (-2 : Int32)]) (rest := []) (zm_X12_refuses ev6).2 (zm_X12_refuses ev6).1 (by decide) rfl (Or.inl rfl) mw_11_14 mw_11_15 mw_11_16 mw_1_5 mw_11_17 yk_X12_refuses (by decide) (by decide) rfl (Nat.le_of_ble_eq_true rfl) rfl dX12_read_11 ?_
      cases hf
      exact z_ireturn hE rfl dX12_read_14
  · cases hf
set_option maxRecDepth 20000 in
theorem zb_X12_reading_73 {N : Nat} {sh : Sh} {r : Int32 × Dt} {E : EV} (hE : TG E (some (.int r.1)) (sh, r.2))  {t0 : Nat} {t1 : Int32} {t2 : Int32} {t3 : Int32} {t4 : Int32} {d : Dt} (hf : f_X12_reading_73 N sh t0 t1 t2 t3 t4 d = some r) : Z E yX12_reading cX12_reading 5 (some .int) 4 (sh, d) 73 [] [.int t4, .int t3, .int t2, .int t1, .ref t0] := by
  unfold f_X12_reading_73 at hf
  obtain ⟨v7, ev7, hf⟩ := ob hf
  refine z_cVi (ci := 12) (T := TX12) (N := 32) (As := [.int t1, .int t2, .int t3, .int t4]) (rest := []) (zm_X12_writes ev7).2 (zm_X12_writes ev7).1 (by decide) rfl (Or.inl rfl) mw_23_4 mw_23_5 mw_23_6 mw_1_5 mw_23_7 yk_X12_writes (by decide) (by decide) rfl (Nat.le_of_ble_eq_true rfl) rfl dX12_reading_73 ?_
  cases hf
  exact z_ireturn hE rfl dX12_reading_76
set_option maxRecDepth 20000 in
theorem zm_X12_reading {N : Nat} {sh : Sh} {d : Dt} {l0 : Nat} {l1 : Int32} {l2 : Int32} {l3 : Int32} {r : Int32 × Dt} (hf : f_X12_reading N sh l0 l1 l2 l3 d = some r) : isO sh l0 12 ∧ ∀ (l : Launch) (G : GG), Mt l G yX12_reading cX12_reading 5 (some .int) 4 [.ref l0, .int l1, .int l2, .int l3] (sh, d) (some (.int r.1)) (sh, r.2) := by
  have hf0 := hf
  unfold f_X12_reading at hf
  refine ite_d hf (fun hO hf => ?_) (fun _ hf => ?_)
  · refine ⟨hO, fun l G => mt_of (Or.inl (by decide)) (Nat.le_of_ble_eq_true rfl) Le.rf (fun E hE => ?_)⟩
    show Z E yX12_reading cX12_reading 5 (some .int) 4 (sh, d) 0 [(0, .ref l0), (1, .int l1), (2, .int l2), (3, .int l3)] []
    refine z_aload_n 0 dX12_reading_0 rfl rfl ?_
    refine z_iload_n 1 dX12_reading_1 rfl rfl ?_
    obtain ⟨v1, ev1, hf⟩ := ob hf
    refine z_cVi (ci := 12) (T := TX12) (N := 32) (As := [.int l1]) (rest := []) (zm_X12_isGauge ev1).2 (zm_X12_isGauge ev1).1 (by decide) rfl (Or.inl rfl) mw_21_9 mw_21_10 mw_21_11 mw_1_5 mw_21_12 yk_X12_isGauge (by decide) (by decide) rfl (Nat.le_of_ble_eq_true rfl) rfl dX12_reading_2 ?_
    refine z_if_ne 15 hf dX12_reading_5 (by decide) (fun hf => ?_) (fun hf => ?_)
    · refine z_aload_n 0 dX12_reading_15 rfl rfl ?_
      refine z_gP (ci := 12) (k := 0) (C := RX12) (T := TX12) (N := 32) rfl inlX12 (by decide) mw_6_19 (fun _ _ _ _ h9 => h9) hf (by decide) rfl dX12_reading_16  (fun v2 hf => ?_)
      refine z_aload_n 0 dX12_reading_19 rfl rfl ?_
      refine z_iload_n 1 dX12_reading_20 rfl rfl ?_
      obtain ⟨v3, ev3, hf⟩ := ob hf
      refine z_cVi (ci := 12) (T := TX12) (N := 32) (As := [.int l1]) (rest := [.ref v2]) (zm_X12_ga ev3).2 (zm_X12_ga ev3).1 (by decide) rfl (Or.inl rfl) mw_20_8 mw_20_9 mw_20_10 mw_1_5 mw_20_11 yk_X12_ga (by decide) (by decide) rfl (Nat.le_of_ble_eq_true rfl) rfl dX12_reading_21 ?_
      refine z_iconst 1 1 dX12_reading_24 (by decide) ?_
      refine z_iadd dX12_reading_25 ?_
      refine z_aI hf dX12_reading_26  (fun v4 hf => ?_)
      refine z_if_ne 39 hf dX12_reading_27 (by decide) (fun hf => ?_) (fun hf => ?_)
      · refine z_iload_n 3 dX12_reading_39 rfl rfl ?_
        refine z_i2s dX12_reading_40 ?_
        refine z_istore [(4, .int l3.toInt16.toInt32), (0, .ref l0), (1, .int l1), (2, .int l2), (3, .int l3)] dX12_reading_41 (by decide) rfl ?_
        refine z_aload_n 1 dX12_reading_43 rfl rfl ?_
        refine z_iload_n 2 dX12_reading_44 rfl rfl ?_
        refine z_iload_n 3 dX12_reading_45 rfl rfl ?_
        refine z_iload 0 dX12_reading_46 rfl ?_
        refine z_iload 0 dX12_reading_48 rfl ?_
        refine z_sipush (-32768) (-32768) dX12_reading_50 (by decide) ?_
        refine z_icmp_ne 60 hf dX12_reading_53 (by decide) (fun hf => ?_) (fun hf => ?_)
        · refine z_iload 0 dX12_reading_60 rfl ?_
          refine z_sipush 32767 32767 dX12_reading_62 (by decide) ?_
          refine z_icmp_ne 72 hf dX12_reading_65 (by decide) (fun hf => ?_) (fun hf => ?_)
          · refine z_iconst 0 0 dX12_reading_72 (by decide) ?_
            refine z_lv [] [] rfl ?_
            exact zb_X12_reading_73 hE hf
          · refine z_iconst 2 2 dX12_reading_68 (by decide) ?_
            refine z_goto 73 dX12_reading_69 (by decide) ?_
            refine z_lv [] [] rfl ?_
            exact zb_X12_reading_73 hE hf
        · refine z_iconst 1 1 dX12_reading_56 (by decide) ?_
          refine z_goto 73 dX12_reading_57 (by decide) ?_
          refine z_lv [] [] rfl ?_
          exact zb_X12_reading_73 hE hf
      · refine z_aload_n 0 dX12_reading_30 rfl rfl ?_
        refine z_iload_n 1 dX12_reading_31 rfl rfl ?_
        refine z_iload_n 2 dX12_reading_32 rfl rfl ?_
        refine z_iload_n 3 dX12_reading_33 rfl rfl ?_
        refine z_iconst 0 0 dX12_reading_34 (by decide) ?_
        obtain ⟨v5, ev5, hf⟩ := ob hf
        refine z_cVi (ci := 12) (T := TX12) (N := 32) (As := [.int l1, .int l2, .int l3, .int (0 : Int32)]) (rest := []) (zm_X12_writes ev5).2 (zm_X12_writes ev5).1 (by decide) rfl (Or.inl rfl) mw_23_4 mw_23_5 mw_23_6 mw_1_5 mw_23_7 yk_X12_writes (by decide) (by decide) rfl (Nat.le_of_ble_eq_true rfl) rfl dX12_reading_35 ?_
        cases hf
        exact z_ireturn hE rfl dX12_reading_38
    · refine z_aload_n 0 dX12_reading_8 rfl rfl ?_
      refine z_bipush (-2) (-2) dX12_reading_9 (by decide) ?_
      obtain ⟨v6, ev6, hf⟩ := ob hf
      refine z_cVi (ci := 12) (T := TX12) (N := 32) (As := [.int (-2 : Int32)]) (rest := []) (zm_X12_refuses ev6).2 (zm_X12_refuses ev6).1 (by decide) rfl (Or.inl rfl) mw_11_14 mw_11_15 mw_11_16 mw_1_5 mw_11_17 yk_X12_refuses (by decide) (by decide) rfl (Nat.le_of_ble_eq_true rfl) rfl dX12_reading_11 ?_
      cases hf
      exact z_ireturn hE rfl dX12_reading_14
  · cases hf
set_option maxRecDepth 20000 in
theorem zb_X12_roundByNearest_310 {N : Nat} {sh : Sh} {r : Int32 × Dt} {E : EV} (hE : TG E (some (.int r.1)) (sh, r.2))  {t0 : Int32} {d : Dt} (hf : f_X12_roundByNearest_310 N sh t0 d = some r) : Z E yX12_roundByNearest cX12_roundByNearest 9 (some .int) 5 (sh, d) 310 [] [.int t0] := by
  unfold f_X12_roundByNearest_310 at hf
  cases hf
  exact z_ireturn hE rfl dX12_roundByNearest_310
set_option maxRecDepth 20000 in
theorem zb_X12_roundByNearest_287 {N : Nat} {sh : Sh} {r : Int32 × Dt} {E : EV} (hE : TG E (some (.int r.1)) (sh, r.2))  {l0 : Nat} {l1 : Int32} {d : Dt} (hf : f_X12_roundByNearest_287 N sh l0 l1 d = some r) : Z E yX12_roundByNearest cX12_roundByNearest 9 (some .int) 5 (sh, d) 287 [(0, .ref l0), (1, .int l1)] [] := by
  unfold f_X12_roundByNearest_287 at hf
  refine z_aload_n 0 dX12_roundByNearest_287 rfl rfl ?_
  refine z_iload_n 1 dX12_roundByNearest_288 rfl rfl ?_
  refine z_iconst 0 0 dX12_roundByNearest_289 (by decide) ?_
  obtain ⟨v23, ev23, hf⟩ := ob hf
  refine z_cVi (ci := 12) (T := TX12) (N := 32) (As := [.int l1, .int (0 : Int32)]) (rest := []) (zm_X12_drivesEmpty ev23).2 (zm_X12_drivesEmpty ev23).1 (by decide) rfl (Or.inl rfl) mw_49_1 mw_49_2 mw_49_3 mw_1_5 mw_49_4 yk_X12_drivesEmpty (by decide) (by decide) rfl (Nat.le_of_ble_eq_true rfl) rfl dX12_roundByNearest_290 ?_
  refine z_istore_n [(1, .int v23.1), (0, .ref l0)] dX12_roundByNearest_293 rfl (by decide) rfl ?_
  refine z_aload_n 1 dX12_roundByNearest_294 rfl rfl ?_
  refine z_gI (ci := 12) (k := 24) (C := RX12) (T := TX12) (N := 32) rfl inlX12 (by decide) mw_48_20 (fun _ _ _ _ h9 => h9) hf (by decide) rfl dX12_roundByNearest_295  (fun v24 hf => ?_)
  refine z_sipush 2000 2000 dX12_roundByNearest_298 (by decide) ?_
  refine z_icmp_le 309 hf dX12_roundByNearest_301 (by decide) (fun hf => ?_) (fun hf => ?_)
  · refine z_iconst 0 0 dX12_roundByNearest_309 (by decide) ?_
    refine z_lv [] [] rfl ?_
    exact zb_X12_roundByNearest_310 hE hf
  · refine z_bipush (-3) (-3) dX12_roundByNearest_304 (by decide) ?_
    refine z_goto 310 dX12_roundByNearest_306 (by decide) ?_
    refine z_lv [] [] rfl ?_
    exact zb_X12_roundByNearest_310 hE hf
set_option maxRecDepth 20000 in
theorem zb_X12_roundByNearest_261 {N : Nat} {sh : Sh} {r : Int32 × Dt} {E : EV} (hE : TG E (some (.int r.1)) (sh, r.2))  {l0 : Nat} {l1 : Int32} {d : Dt} (hf : f_X12_roundByNearest_261 N sh l0 l1 d = some r) : Z E yX12_roundByNearest cX12_roundByNearest 9 (some .int) 5 (sh, d) 261 [(0, .ref l0), (1, .int l1)] [] := by
  unfold f_X12_roundByNearest_261 at hf
  refine z_aload_n 0 dX12_roundByNearest_261 rfl rfl ?_
  refine z_gP (ci := 12) (k := 0) (C := RX12) (T := TX12) (N := 32) rfl inlX12 (by decide) mw_6_19 (fun _ _ _ _ h9 => h9) hf (by decide) rfl dX12_roundByNearest_262  (fun v1 hf => ?_)
  refine z_iconst 0 0 dX12_roundByNearest_265 (by decide) ?_
  refine z_aI hf dX12_roundByNearest_266  (fun v2 hf => ?_)
  refine z_if_le 287 hf dX12_roundByNearest_267 (by decide) (fun hf => ?_) (fun hf => ?_)
  · exact zb_X12_roundByNearest_287 hE hf
  · refine z_aload_n 0 dX12_roundByNearest_270 rfl rfl ?_
    refine z_gP (ci := 12) (k := 9) (C := RX12) (T := TX12) (N := 32) rfl inlX12 (by decide) mw_6_23 (fun _ _ _ _ h9 => h9) hf (by decide) rfl dX12_roundByNearest_271  (fun v3 hf => ?_)
    refine z_bipush 60 60 dX12_roundByNearest_274 (by decide) ?_
    refine z_iload_n 1 dX12_roundByNearest_276 rfl rfl ?_
    refine z_imul dX12_roundByNearest_277 ?_
    refine z_aI hf dX12_roundByNearest_278  (fun v4 hf => ?_)
    refine z_ldc mw_17_19 dX12_roundByNearest_279 ?_
    refine z_icmp_lt 287 hf dX12_roundByNearest_281 (by decide) (fun hf => ?_) (fun hf => ?_)
    · exact zb_X12_roundByNearest_287 hE hf
    · refine z_bipush (-8) (-8) dX12_roundByNearest_284 (by decide) ?_
      cases hf
      exact z_ireturn hE rfl dX12_roundByNearest_286
set_option maxRecDepth 20000 in
theorem zb_X12_roundByNearest_258 {N : Nat} {sh : Sh} {k4 : Nat → Int32 → Int32 → Dt → Option (Int32 × Dt)} {r : Int32 × Dt} {E : EV} (hE : TG E (some (.int r.1)) (sh, r.2)) (hk4 : ∀ (l0 : Nat) (l1 : Int32) (l2 : Int32) (d : Dt), k4 l0 l1 l2 d = some r → Z E yX12_roundByNearest cX12_roundByNearest 9 (some .int) 5 (sh, d) 4 [(0, .ref l0), (1, .int l1), (2, .int l2)] []) {l0 : Nat} {l1 : Int32} {l2 : Int32} {d : Dt} (hf : f_X12_roundByNearest_258 N sh k4 l0 l1 l2 d = some r) : Z E yX12_roundByNearest cX12_roundByNearest 9 (some .int) 5 (sh, d) 258 [(0, .ref l0), (1, .int l1), (2, .int l2)] [] := by
  unfold f_X12_roundByNearest_258 at hf
  refine z_goto 4 dX12_roundByNearest_258 (by decide) ?_
  exact hk4 _ _ _ _ hf
set_option maxRecDepth 20000 in
theorem zb_X12_roundByNearest_255 {N : Nat} {sh : Sh} {r : Int32 × Dt} {E : EV} (hE : TG E (some (.int r.1)) (sh, r.2))   {d : Dt} (hf : f_X12_roundByNearest_255 N sh  d = some r) : Z E yX12_roundByNearest cX12_roundByNearest 9 (some .int) 5 (sh, d) 255 [] [] := by
  unfold f_X12_roundByNearest_255 at hf
  refine z_bipush (-3) (-3) dX12_roundByNearest_255 (by decide) ?_
  cases hf
  exact z_ireturn hE rfl dX12_roundByNearest_257
set_option maxRecDepth 20000 in
theorem zb_X12_roundByNearest_208 {N : Nat} {sh : Sh} {k4 : Nat → Int32 → Int32 → Dt → Option (Int32 × Dt)} {r : Int32 × Dt} {E : EV} (hE : TG E (some (.int r.1)) (sh, r.2)) (hk4 : ∀ (l0 : Nat) (l1 : Int32) (l2 : Int32) (d : Dt), k4 l0 l1 l2 d = some r → Z E yX12_roundByNearest cX12_roundByNearest 9 (some .int) 5 (sh, d) 4 [(0, .ref l0), (1, .int l1), (2, .int l2)] []) {l0 : Nat} {l1 : Int32} {l2 : Int32} {l4 : Int32} {d : Dt} (hf : f_X12_roundByNearest_208 N sh k4 l0 l1 l2 l4 d = some r) : Z E yX12_roundByNearest cX12_roundByNearest 9 (some .int) 5 (sh, d) 208 [(0, .ref l0), (1, .int l1), (2, .int l2), (4, .int l4)] [] := by
  unfold f_X12_roundByNearest_208 at hf
  refine z_iload_n 2 dX12_roundByNearest_208 rfl rfl ?_
  refine z_iconst (-1) (-1) dX12_roundByNearest_209 (by decide) ?_
  refine z_icmp_eq 258 hf dX12_roundByNearest_210 (by decide) (fun hf => ?_) (fun hf => ?_)
  · refine z_lv [(0, .ref l0), (1, .int l1), (2, .int l2)] [0, 1, 2] rfl ?_
    exact zb_X12_roundByNearest_258 hE hk4 hf
  · refine z_aload_n 0 dX12_roundByNearest_213 rfl rfl ?_
    refine z_iload_n 1 dX12_roundByNearest_214 rfl rfl ?_
    refine z_iload 3 dX12_roundByNearest_215 rfl ?_
    obtain ⟨v32, ev32, hf⟩ := ob hf
    refine z_cVi (ci := 12) (T := TX12) (N := 32) (As := [.int l1, .int l4]) (rest := []) (zm_X12_drivesEmpty ev32).2 (zm_X12_drivesEmpty ev32).1 (by decide) rfl (Or.inl rfl) mw_49_1 mw_49_2 mw_49_3 mw_1_5 mw_49_4 yk_X12_drivesEmpty (by decide) (by decide) rfl (Nat.le_of_ble_eq_true rfl) rfl dX12_roundByNearest_217 ?_
    refine z_istore_n [(1, .int v32.1), (0, .ref l0), (2, .int l2), (4, .int l4)] dX12_roundByNearest_220 rfl (by decide) rfl ?_
    refine z_aload_n 1 dX12_roundByNearest_221 rfl rfl ?_
    refine z_iload_n 2 dX12_roundByNearest_222 rfl rfl ?_
    refine z_iload_n 0 dX12_roundByNearest_223 rfl rfl ?_
    refine z_iconst 1 1 dX12_roundByNearest_224 (by decide) ?_
    obtain ⟨v33, ev33, hf⟩ := ob hf
    refine z_cVv (ci := 12) (T := TX12) (N := 32) (As := [.int l2, .int v32.1, .int (1 : Int32)]) (rest := []) (zm_X12_drive ev33).2 (zm_X12_drive ev33).1 (by decide) rfl (Or.inl rfl) mw_49_5 mw_49_6 mw_49_7 mw_1_5 mw_49_8 yk_X12_drive (by decide) (by decide) rfl (Nat.le_of_ble_eq_true rfl) rfl dX12_roundByNearest_225 ?_
    refine z_aload_n 1 dX12_roundByNearest_228 rfl rfl ?_
    refine z_gP (ci := 12) (k := 28) (C := RX12) (T := TX12) (N := 32) rfl inlX12 (by decide) mw_7_13 (fun _ _ _ _ h9 => h9) hf (by decide) rfl dX12_roundByNearest_229  (fun v34 hf => ?_)
    refine z_iload_n 2 dX12_roundByNearest_232 rfl rfl ?_
    refine z_dup2_11 dX12_roundByNearest_233 rfl rfl ?_
    refine z_aI hf dX12_roundByNearest_234  (fun v35 hf => ?_)
    refine z_iconst 1 1 dX12_roundByNearest_235 (by decide) ?_
    refine z_iadd dX12_roundByNearest_236 ?_
    refine z_sI hf dX12_roundByNearest_237  (fun d36 hf => ?_)
    refine z_aload_n 1 dX12_roundByNearest_238 rfl rfl ?_
    refine z_iload_n 2 dX12_roundByNearest_239 rfl rfl ?_
    refine z_iload_n 0 dX12_roundByNearest_240 rfl rfl ?_
    obtain ⟨v37, ev37, hf⟩ := ob hf
    refine z_cVi (ci := 12) (T := TX12) (N := 32) (As := [.int l2, .int v32.1]) (rest := []) (zm_X12_leads ev37).2 (zm_X12_leads ev37).1 (by decide) rfl (Or.inl rfl) mw_19_13 mw_19_14 mw_19_15 mw_1_5 mw_19_16 yk_X12_leads (by decide) (by decide) rfl (Nat.le_of_ble_eq_true rfl) rfl dX12_roundByNearest_241 ?_
    refine z_istore_n [(1, .int v37), (0, .ref l0), (2, .int l2), (4, .int l4)] dX12_roundByNearest_244 rfl (by decide) rfl ?_
    refine z_aload_n 1 dX12_roundByNearest_245 rfl rfl ?_
    refine z_gI (ci := 12) (k := 24) (C := RX12) (T := TX12) (N := 32) rfl inlX12 (by decide) mw_48_20 (fun _ _ _ _ h9 => h9) hf (by decide) rfl dX12_roundByNearest_246  (fun v38 hf => ?_)
    refine z_sipush 2000 2000 dX12_roundByNearest_249 (by decide) ?_
    refine z_icmp_le 258 hf dX12_roundByNearest_252 (by decide) (fun hf => ?_) (fun hf => ?_)
    · refine z_lv [(0, .ref l0), (1, .int v37), (2, .int l2)] [1, 0, 2] rfl ?_
      exact zb_X12_roundByNearest_258 hE hk4 hf
    · refine z_lv [] [] rfl ?_
      exact zb_X12_roundByNearest_255 hE hf
set_option maxRecDepth 20000 in
theorem zb_X12_roundByNearest_205 {N : Nat} {sh : Sh} {r : Int32 × Dt} {E : EV} (hE : TG E (some (.int r.1)) (sh, r.2))   {d : Dt} (hf : f_X12_roundByNearest_205 N sh  d = some r) : Z E yX12_roundByNearest cX12_roundByNearest 9 (some .int) 5 (sh, d) 205 [] [] := by
  unfold f_X12_roundByNearest_205 at hf
  refine z_bipush (-8) (-8) dX12_roundByNearest_205 (by decide) ?_
  cases hf
  exact z_ireturn hE rfl dX12_roundByNearest_207
set_option maxRecDepth 20000 in
theorem zb_X12_roundByNearest_195 {N : Nat} {sh : Sh} {k4 : Nat → Int32 → Int32 → Dt → Option (Int32 × Dt)} {r : Int32 × Dt} {E : EV} (hE : TG E (some (.int r.1)) (sh, r.2)) (hk4 : ∀ (l0 : Nat) (l1 : Int32) (l2 : Int32) (d : Dt), k4 l0 l1 l2 d = some r → Z E yX12_roundByNearest cX12_roundByNearest 9 (some .int) 5 (sh, d) 4 [(0, .ref l0), (1, .int l1), (2, .int l2)] []) {l0 : Nat} {l1 : Int32} {l2 : Int32} {l4 : Int32} {l5 : Int32} {d : Dt} (hf : f_X12_roundByNearest_195 N sh k4 l0 l1 l2 l4 l5 d = some r) : Z E yX12_roundByNearest cX12_roundByNearest 9 (some .int) 5 (sh, d) 195 [(0, .ref l0), (1, .int l1), (2, .int l2), (4, .int l4), (5, .int l5)] [] := by
  unfold f_X12_roundByNearest_195 at hf
  refine z_iload 4 dX12_roundByNearest_195 rfl ?_
  refine z_if_eq 208 hf dX12_roundByNearest_197 (by decide) (fun hf => ?_) (fun hf => ?_)
  · refine z_lv [(0, .ref l0), (1, .int l1), (2, .int l2), (4, .int l4)] [0, 1, 2, 3] rfl ?_
    exact zb_X12_roundByNearest_208 hE hk4 hf
  · refine z_iload_n 2 dX12_roundByNearest_200 rfl rfl ?_
    refine z_iconst (-1) (-1) dX12_roundByNearest_201 (by decide) ?_
    refine z_icmp_ne 208 hf dX12_roundByNearest_202 (by decide) (fun hf => ?_) (fun hf => ?_)
    · refine z_lv [(0, .ref l0), (1, .int l1), (2, .int l2), (4, .int l4)] [0, 1, 2, 3] rfl ?_
      exact zb_X12_roundByNearest_208 hE hk4 hf
    · refine z_lv [] [] rfl ?_
      exact zb_X12_roundByNearest_205 hE hf
set_option maxRecDepth 20000 in
theorem zb_X12_roundByNearest_189 {N : Nat} {sh : Sh} {k4 : Nat → Int32 → Int32 → Dt → Option (Int32 × Dt)} {k23 : Nat → Int32 → Int32 → Int32 → Int32 → Int32 → Int32 → Dt → Option (Int32 × Dt)} {r : Int32 × Dt} {E : EV} (hE : TG E (some (.int r.1)) (sh, r.2)) (hk4 : ∀ (l0 : Nat) (l1 : Int32) (l2 : Int32) (d : Dt), k4 l0 l1 l2 d = some r → Z E yX12_roundByNearest cX12_roundByNearest 9 (some .int) 5 (sh, d) 4 [(0, .ref l0), (1, .int l1), (2, .int l2)] []) (hk23 : ∀ (l0 : Nat) (l1 : Int32) (l2 : Int32) (l3 : Int32) (l4 : Int32) (l5 : Int32) (l6 : Int32) (d : Dt), k23 l0 l1 l2 l3 l4 l5 l6 d = some r → Z E yX12_roundByNearest cX12_roundByNearest 9 (some .int) 5 (sh, d) 23 [(0, .ref l0), (1, .int l1), (2, .int l2), (3, .int l3), (4, .int l4), (5, .int l5), (6, .int l6)] []) {l0 : Nat} {l1 : Int32} {l2 : Int32} {l3 : Int32} {l4 : Int32} {l5 : Int32} {l6 : Int32} {d : Dt} (hf : f_X12_roundByNearest_189 N sh k4 k23 l0 l1 l2 l3 l4 l5 l6 d = some r) : Z E yX12_roundByNearest cX12_roundByNearest 9 (some .int) 5 (sh, d) 189 [(0, .ref l0), (1, .int l1), (2, .int l2), (3, .int l3), (4, .int l4), (5, .int l5), (6, .int l6)] [] := by
  unfold f_X12_roundByNearest_189 at hf
  refine z_iinc [(6, .int (l6 + 1)), (0, .ref l0), (1, .int l1), (2, .int l2), (3, .int l3), (4, .int l4), (5, .int l5)] 6 (l6 + 1) dX12_roundByNearest_189 rfl rfl (by decide) rfl ?_
  refine z_goto 23 dX12_roundByNearest_192 (by decide) ?_
  refine z_lv [(0, .ref l0), (1, .int l1), (2, .int l2), (3, .int l3), (4, .int l4), (5, .int l5), (6, .int (l6 + 1))] [1, 2, 3, 4, 5, 6, 0] rfl ?_
  exact hk23 _ _ _ _ _ _ _ _ hf
set_option maxRecDepth 20000 in
theorem zb_X12_roundByNearest_137 {N : Nat} {sh : Sh} {k4 : Nat → Int32 → Int32 → Dt → Option (Int32 × Dt)} {k23 : Nat → Int32 → Int32 → Int32 → Int32 → Int32 → Int32 → Dt → Option (Int32 × Dt)} {r : Int32 × Dt} {E : EV} (hE : TG E (some (.int r.1)) (sh, r.2)) (hk4 : ∀ (l0 : Nat) (l1 : Int32) (l2 : Int32) (d : Dt), k4 l0 l1 l2 d = some r → Z E yX12_roundByNearest cX12_roundByNearest 9 (some .int) 5 (sh, d) 4 [(0, .ref l0), (1, .int l1), (2, .int l2)] []) (hk23 : ∀ (l0 : Nat) (l1 : Int32) (l2 : Int32) (l3 : Int32) (l4 : Int32) (l5 : Int32) (l6 : Int32) (d : Dt), k23 l0 l1 l2 l3 l4 l5 l6 d = some r → Z E yX12_roundByNearest cX12_roundByNearest 9 (some .int) 5 (sh, d) 23 [(0, .ref l0), (1, .int l1), (2, .int l2), (3, .int l3), (4, .int l4), (5, .int l5), (6, .int l6)] []) {l0 : Nat} {l1 : Int32} {l2 : Int32} {l3 : Int32} {l4 : Int32} {l5 : Int32} {l6 : Int32} {l8 : Int32} {d : Dt} (hf : f_X12_roundByNearest_137 N sh k4 k23 l0 l1 l2 l3 l4 l5 l6 l8 d = some r) : Z E yX12_roundByNearest cX12_roundByNearest 9 (some .int) 5 (sh, d) 137 [(0, .ref l0), (1, .int l1), (2, .int l2), (3, .int l3), (4, .int l4), (5, .int l5), (6, .int l6), (8, .int l8)] [] := by
  unfold f_X12_roundByNearest_137 at hf
  refine z_aload_n 0 dX12_roundByNearest_137 rfl rfl ?_
  refine z_gP (ci := 12) (k := 0) (C := RX12) (T := TX12) (N := 32) rfl inlX12 (by decide) mw_6_19 (fun _ _ _ _ h9 => h9) hf (by decide) rfl dX12_roundByNearest_138  (fun v25 hf => ?_)
  refine z_aload_n 0 dX12_roundByNearest_141 rfl rfl ?_
  refine z_iload 6 dX12_roundByNearest_142 rfl ?_
  obtain ⟨v26, ev26, hf⟩ := ob hf
  refine z_cVi (ci := 12) (T := TX12) (N := 32) (As := [.int l6]) (rest := [.ref v25]) (zm_X12_st ev26).2 (zm_X12_st ev26).1 (by decide) rfl (Or.inl rfl) mw_13_10 mw_13_11 mw_13_12 mw_1_5 mw_13_13 yk_X12_st (by decide) (by decide) rfl (Nat.le_of_ble_eq_true rfl) rfl dX12_roundByNearest_144 ?_
  refine z_iconst 5 5 dX12_roundByNearest_147 (by decide) ?_
  refine z_iadd dX12_roundByNearest_148 ?_
  refine z_aI hf dX12_roundByNearest_149  (fun v27 hf => ?_)
  refine z_if_ne 189 hf dX12_roundByNearest_150 (by decide) (fun hf => ?_) (fun hf => ?_)
  · refine z_lv [(0, .ref l0), (1, .int l1), (2, .int l2), (3, .int l3), (4, .int l4), (5, .int l5), (6, .int l6)] [0, 1, 2, 3, 4, 5, 6] rfl ?_
    exact zb_X12_roundByNearest_189 hE hk4 hk23 hf
  · refine z_aload_n 0 dX12_roundByNearest_153 rfl rfl ?_
    refine z_gP (ci := 12) (k := 9) (C := RX12) (T := TX12) (N := 32) rfl inlX12 (by decide) mw_6_23 (fun _ _ _ _ h9 => h9) hf (by decide) rfl dX12_roundByNearest_154  (fun v28 hf => ?_)
    refine z_bipush 60 60 dX12_roundByNearest_157 (by decide) ?_
    refine z_iload_n 1 dX12_roundByNearest_159 rfl rfl ?_
    refine z_imul dX12_roundByNearest_160 ?_
    refine z_iload 7 dX12_roundByNearest_161 rfl ?_
    refine z_iadd dX12_roundByNearest_163 ?_
    refine z_aI hf dX12_roundByNearest_164  (fun v29 hf => ?_)
    refine z_iload_n 3 dX12_roundByNearest_165 rfl rfl ?_
    refine z_icmp_ge 189 hf dX12_roundByNearest_166 (by decide) (fun hf => ?_) (fun hf => ?_)
    · refine z_lv [(0, .ref l0), (1, .int l1), (2, .int l2), (3, .int l3), (4, .int l4), (5, .int l5), (6, .int l6)] [0, 1, 2, 3, 4, 5, 6] rfl ?_
      exact zb_X12_roundByNearest_189 hE hk4 hk23 hf
    · refine z_aload_n 0 dX12_roundByNearest_169 rfl rfl ?_
      refine z_gP (ci := 12) (k := 9) (C := RX12) (T := TX12) (N := 32) rfl inlX12 (by decide) mw_6_23 (fun _ _ _ _ h9 => h9) hf (by decide) rfl dX12_roundByNearest_170  (fun v30 hf => ?_)
      refine z_bipush 60 60 dX12_roundByNearest_173 (by decide) ?_
      refine z_iload_n 1 dX12_roundByNearest_175 rfl rfl ?_
      refine z_imul dX12_roundByNearest_176 ?_
      refine z_iload 7 dX12_roundByNearest_177 rfl ?_
      refine z_iadd dX12_roundByNearest_179 ?_
      refine z_aI hf dX12_roundByNearest_180  (fun v31 hf => ?_)
      refine z_istore_n [(3, .int v31), (0, .ref l0), (1, .int l1), (2, .int l2), (4, .int l4), (5, .int l5), (6, .int l6), (8, .int l8)] dX12_roundByNearest_181 rfl (by decide) rfl ?_
      refine z_iload 7 dX12_roundByNearest_182 rfl ?_
      refine z_istore [(4, .int l8), (3, .int v31), (0, .ref l0), (1, .int l1), (2, .int l2), (5, .int l5), (6, .int l6), (8, .int l8)] dX12_roundByNearest_184 (by decide) rfl ?_
      refine z_iload 6 dX12_roundByNearest_186 rfl ?_
      refine z_istore_n [(2, .int l6), (4, .int l8), (3, .int v31), (0, .ref l0), (1, .int l1), (5, .int l5), (6, .int l6), (8, .int l8)] dX12_roundByNearest_188 rfl (by decide) rfl ?_
      refine z_lv [(0, .ref l0), (1, .int l1), (2, .int l6), (3, .int v31), (4, .int l8), (5, .int l5), (6, .int l6)] [3, 4, 0, 2, 1, 5, 6] rfl ?_
      exact zb_X12_roundByNearest_189 hE hk4 hk23 hf
set_option maxRecDepth 20000 in
theorem zg_X12_roundByNearest_23 {N : Nat} {sh : Sh} {k4 : Nat → Int32 → Int32 → Dt → Option (Int32 × Dt)} {r : Int32 × Dt} {k23 : Nat → Int32 → Int32 → Int32 → Int32 → Int32 → Int32 → Dt → Option (Int32 × Dt)} {E : EV} (hE : TG E (some (.int r.1)) (sh, r.2)) (hk4 : ∀ (l0 : Nat) (l1 : Int32) (l2 : Int32) (d : Dt), k4 l0 l1 l2 d = some r → Z E yX12_roundByNearest cX12_roundByNearest 9 (some .int) 5 (sh, d) 4 [(0, .ref l0), (1, .int l1), (2, .int l2)] []) (hk23 : ∀ (l0 : Nat) (l1 : Int32) (l2 : Int32) (l3 : Int32) (l4 : Int32) (l5 : Int32) (l6 : Int32) (d : Dt), k23 l0 l1 l2 l3 l4 l5 l6 d = some r → Z E yX12_roundByNearest cX12_roundByNearest 9 (some .int) 5 (sh, d) 23 [(0, .ref l0), (1, .int l1), (2, .int l2), (3, .int l3), (4, .int l4), (5, .int l5), (6, .int l6)] []) {l0 : Nat} {l1 : Int32} {l2 : Int32} {l3 : Int32} {l4 : Int32} {l5 : Int32} {l6 : Int32} {d : Dt} (hf : g_X12_roundByNearest_23 N sh k4 k23 l0 l1 l2 l3 l4 l5 l6 d = some r) : Z E yX12_roundByNearest cX12_roundByNearest 9 (some .int) 5 (sh, d) 23 [(0, .ref l0), (1, .int l1), (2, .int l2), (3, .int l3), (4, .int l4), (5, .int l5), (6, .int l6)] [] := by
  unfold g_X12_roundByNearest_23 at hf
  refine z_iload 6 dX12_roundByNearest_23 rfl ?_
  refine z_aload_n 0 dX12_roundByNearest_25 rfl rfl ?_
  refine z_gP (ci := 12) (k := 0) (C := RX12) (T := TX12) (N := 32) rfl inlX12 (by decide) mw_6_19 (fun _ _ _ _ h9 => h9) hf (by decide) rfl dX12_roundByNearest_26  (fun v5 hf => ?_)
  refine z_iconst 1 1 dX12_roundByNearest_29 (by decide) ?_
  refine z_aI hf dX12_roundByNearest_30  (fun v6 hf => ?_)
  refine z_icmp_ge 195 hf dX12_roundByNearest_31 (by decide) (fun hf => ?_) (fun hf => ?_)
  · refine z_lv [(0, .ref l0), (1, .int l1), (2, .int l2), (4, .int l4), (5, .int l5)] [0, 1, 2, 4, 5] rfl ?_
    exact zb_X12_roundByNearest_195 hE hk4 hf
  · refine z_aload_n 0 dX12_roundByNearest_34 rfl rfl ?_
    refine z_iload 6 dX12_roundByNearest_35 rfl ?_
    obtain ⟨v7, ev7, hf⟩ := ob hf
    refine z_cVi (ci := 12) (T := TX12) (N := 32) (As := [.int l6]) (rest := []) (zm_X12_must ev7).2 (zm_X12_must ev7).1 (by decide) rfl (Or.inl rfl) mw_40_13 mw_40_14 mw_40_15 mw_1_5 mw_40_16 yk_X12_must (by decide) (by decide) rfl (Nat.le_of_ble_eq_true rfl) rfl dX12_roundByNearest_37 ?_
    refine z_if_eq 189 hf dX12_roundByNearest_40 (by decide) (fun hf => ?_) (fun hf => ?_)
    · exact zb_X12_roundByNearest_189 hE hk4 hk23 hf
    · refine z_aload_n 0 dX12_roundByNearest_43 rfl rfl ?_
      refine z_gP (ci := 12) (k := 28) (C := RX12) (T := TX12) (N := 32) rfl inlX12 (by decide) mw_7_13 (fun _ _ _ _ h9 => h9) hf (by decide) rfl dX12_roundByNearest_44  (fun v8 hf => ?_)
      refine z_iload 6 dX12_roundByNearest_47 rfl ?_
      refine z_aI hf dX12_roundByNearest_49  (fun v9 hf => ?_)
      refine z_aload_n 0 dX12_roundByNearest_50 rfl rfl ?_
      refine z_gP (ci := 12) (k := 0) (C := RX12) (T := TX12) (N := 32) rfl inlX12 (by decide) mw_6_19 (fun _ _ _ _ h9 => h9) hf (by decide) rfl dX12_roundByNearest_51  (fun v10 hf => ?_)
      refine z_aload_n 0 dX12_roundByNearest_54 rfl rfl ?_
      refine z_iload 6 dX12_roundByNearest_55 rfl ?_
      obtain ⟨v11, ev11, hf⟩ := ob hf
      refine z_cVi (ci := 12) (T := TX12) (N := 32) (As := [.int l6]) (rest := [.ref v10, .int v9]) (zm_X12_st ev11).2 (zm_X12_st ev11).1 (by decide) rfl (Or.inl rfl) mw_13_10 mw_13_11 mw_13_12 mw_1_5 mw_13_13 yk_X12_st (by decide) (by decide) rfl (Nat.le_of_ble_eq_true rfl) rfl dX12_roundByNearest_57 ?_
      refine z_iconst 3 3 dX12_roundByNearest_60 (by decide) ?_
      refine z_iadd dX12_roundByNearest_61 ?_
      refine z_aI hf dX12_roundByNearest_62  (fun v12 hf => ?_)
      refine z_icmp_ge 189 hf dX12_roundByNearest_63 (by decide) (fun hf => ?_) (fun hf => ?_)
      · exact zb_X12_roundByNearest_189 hE hk4 hk23 hf
      · refine z_aload_n 0 dX12_roundByNearest_66 rfl rfl ?_
        refine z_gP (ci := 12) (k := 0) (C := RX12) (T := TX12) (N := 32) rfl inlX12 (by decide) mw_6_19 (fun _ _ _ _ h9 => h9) hf (by decide) rfl dX12_roundByNearest_67  (fun v13 hf => ?_)
        refine z_aload_n 0 dX12_roundByNearest_70 rfl rfl ?_
        refine z_iload 6 dX12_roundByNearest_71 rfl ?_
        obtain ⟨v14, ev14, hf⟩ := ob hf
        refine z_cVi (ci := 12) (T := TX12) (N := 32) (As := [.int l6]) (rest := [.ref v13]) (zm_X12_st ev14).2 (zm_X12_st ev14).1 (by decide) rfl (Or.inl rfl) mw_13_10 mw_13_11 mw_13_12 mw_1_5 mw_13_13 yk_X12_st (by decide) (by decide) rfl (Nat.le_of_ble_eq_true rfl) rfl dX12_roundByNearest_73 ?_
        refine z_bipush 7 7 dX12_roundByNearest_76 (by decide) ?_
        refine z_iadd dX12_roundByNearest_78 ?_
        refine z_aI hf dX12_roundByNearest_79  (fun v15 hf => ?_)
        refine z_istore [(7, .int v15), (0, .ref l0), (1, .int l1), (2, .int l2), (3, .int l3), (4, .int l4), (5, .int l5), (6, .int l6)] dX12_roundByNearest_80 (by decide) rfl ?_
        refine z_aload_n 1 dX12_roundByNearest_82 rfl rfl ?_
        refine z_gP (ci := 12) (k := 0) (C := RX12) (T := TX12) (N := 32) rfl inlX12 (by decide) mw_6_19 (fun _ _ _ _ h9 => h9) hf (by decide) rfl dX12_roundByNearest_83  (fun v16 hf => ?_)
        refine z_aload_n 1 dX12_roundByNearest_86 rfl rfl ?_
        refine z_iload 7 dX12_roundByNearest_87 rfl ?_
        obtain ⟨v17, ev17, hf⟩ := ob hf
        refine z_cVi (ci := 12) (T := TX12) (N := 32) (As := [.int l6]) (rest := [.ref v16]) (zm_X12_st ev17).2 (zm_X12_st ev17).1 (by decide) rfl (Or.inl rfl) mw_13_10 mw_13_11 mw_13_12 mw_1_5 mw_13_13 yk_X12_st (by decide) (by decide) rfl (Nat.le_of_ble_eq_true rfl) rfl dX12_roundByNearest_89 ?_
        refine z_bipush 8 8 dX12_roundByNearest_92 (by decide) ?_
        refine z_iadd dX12_roundByNearest_94 ?_
        refine z_aI hf dX12_roundByNearest_95  (fun v18 hf => ?_)
        refine z_istore [(8, .int v18), (7, .int v15), (0, .ref l0), (1, .int l1), (2, .int l2), (3, .int l3), (4, .int l4), (5, .int l5), (6, .int l6)] dX12_roundByNearest_96 (by decide) rfl ?_
        refine z_iconst 1 1 dX12_roundByNearest_98 (by decide) ?_
        refine z_istore [(5, .int (1 : Int32)), (8, .int v18), (7, .int v15), (0, .ref l0), (1, .int l1), (2, .int l2), (3, .int l3), (4, .int l4), (6, .int l6)] dX12_roundByNearest_99 (by decide) rfl ?_
        refine z_aload_n 3 dX12_roundByNearest_101 rfl rfl ?_
        refine z_gP (ci := 12) (k := 9) (C := RX12) (T := TX12) (N := 32) rfl inlX12 (by decide) mw_6_23 (fun _ _ _ _ h9 => h9) hf (by decide) rfl dX12_roundByNearest_102  (fun v19 hf => ?_)
        refine z_bipush 60 60 dX12_roundByNearest_105 (by decide) ?_
        refine z_iload_n 4 dX12_roundByNearest_107 rfl rfl ?_
        refine z_imul dX12_roundByNearest_108 ?_
        refine z_iload 2 dX12_roundByNearest_109 rfl ?_
        refine z_iadd dX12_roundByNearest_111 ?_
        refine z_aI hf dX12_roundByNearest_112  (fun v20 hf => ?_)
        refine z_iload_n 6 dX12_roundByNearest_113 rfl rfl ?_
        refine z_icmp_ge 137 hf dX12_roundByNearest_114 (by decide) (fun hf => ?_) (fun hf => ?_)
        · refine z_lv [(0, .ref l0), (1, .int l1), (2, .int l2), (3, .int l3), (4, .int l4), (5, .int (1 : Int32)), (6, .int l6), (8, .int v18)] [3, 4, 5, 6, 7, 0, 8, 1] rfl ?_
          exact zb_X12_roundByNearest_137 hE hk4 hk23 hf
        · refine z_aload_n 3 dX12_roundByNearest_117 rfl rfl ?_
          refine z_gP (ci := 12) (k := 9) (C := RX12) (T := TX12) (N := 32) rfl inlX12 (by decide) mw_6_23 (fun _ _ _ _ h9 => h9) hf (by decide) rfl dX12_roundByNearest_118  (fun v21 hf => ?_)
          refine z_bipush 60 60 dX12_roundByNearest_121 (by decide) ?_
          refine z_iload_n 4 dX12_roundByNearest_123 rfl rfl ?_
          refine z_imul dX12_roundByNearest_124 ?_
          refine z_iload 2 dX12_roundByNearest_125 rfl ?_
          refine z_iadd dX12_roundByNearest_127 ?_
          refine z_aI hf dX12_roundByNearest_128  (fun v22 hf => ?_)
          refine z_istore_n [(3, .int v22), (5, .int (1 : Int32)), (8, .int v18), (7, .int v15), (0, .ref l0), (1, .int l1), (2, .int l2), (4, .int l4), (6, .int l6)] dX12_roundByNearest_129 rfl (by decide) rfl ?_
          refine z_iload 3 dX12_roundByNearest_130 rfl ?_
          refine z_istore [(4, .int v15), (3, .int v22), (5, .int (1 : Int32)), (8, .int v18), (7, .int v15), (0, .ref l0), (1, .int l1), (2, .int l2), (6, .int l6)] dX12_roundByNearest_132 (by decide) rfl ?_
          refine z_iload 8 dX12_roundByNearest_134 rfl ?_
          refine z_istore_n [(2, .int l6), (4, .int v15), (3, .int v22), (5, .int (1 : Int32)), (8, .int v18), (7, .int v15), (0, .ref l0), (1, .int l1), (6, .int l6)] dX12_roundByNearest_136 rfl (by decide) rfl ?_
          refine z_lv [(0, .ref l0), (1, .int l1), (2, .int l6), (3, .int v22), (4, .int v15), (5, .int (1 : Int32)), (6, .int l6), (8, .int v18)] [6, 7, 0, 2, 1, 3, 8, 4] rfl ?_
          exact zb_X12_roundByNearest_137 hE hk4 hk23 hf
set_option maxRecDepth 20000 in
theorem zb_X12_roundByNearest_23 {N : Nat} {sh : Sh} {k4 : Nat → Int32 → Int32 → Dt → Option (Int32 × Dt)} {r : Int32 × Dt} {E : EV} (hE : TG E (some (.int r.1)) (sh, r.2)) (hk4 : ∀ (l0 : Nat) (l1 : Int32) (l2 : Int32) (d : Dt), k4 l0 l1 l2 d = some r → Z E yX12_roundByNearest cX12_roundByNearest 9 (some .int) 5 (sh, d) 4 [(0, .ref l0), (1, .int l1), (2, .int l2)] []) : ∀ (n : Nat) (l0 : Nat) (l1 : Int32) (l2 : Int32) (l3 : Int32) (l4 : Int32) (l5 : Int32) (l6 : Int32) (d : Dt), f_X12_roundByNearest_23 N sh k4 n l0 l1 l2 l3 l4 l5 l6 d = some r → Z E yX12_roundByNearest cX12_roundByNearest 9 (some .int) 5 (sh, d) 23 [(0, .ref l0), (1, .int l1), (2, .int l2), (3, .int l3), (4, .int l4), (5, .int l5), (6, .int l6)] [] := by
  intro n
  induction n with
  | zero => intro l0 l1 l2 l3 l4 l5 l6 d hf; cases hf
  | succ n ih => intro l0 l1 l2 l3 l4 l5 l6 d hf; exact zg_X12_roundByNearest_23 hE hk4 ih hf
set_option maxRecDepth 20000 in
theorem zg_X12_roundByNearest_4 {N : Nat} {sh : Sh} {r : Int32 × Dt} {k4 : Nat → Int32 → Int32 → Dt → Option (Int32 × Dt)} {E : EV} (hE : TG E (some (.int r.1)) (sh, r.2))  (hk4 : ∀ (l0 : Nat) (l1 : Int32) (l2 : Int32) (d : Dt), k4 l0 l1 l2 d = some r → Z E yX12_roundByNearest cX12_roundByNearest 9 (some .int) 5 (sh, d) 4 [(0, .ref l0), (1, .int l1), (2, .int l2)] []) {l0 : Nat} {l1 : Int32} {l2 : Int32} {d : Dt} (hf : g_X12_roundByNearest_4 N sh k4 l0 l1 l2 d = some r) : Z E yX12_roundByNearest cX12_roundByNearest 9 (some .int) 5 (sh, d) 4 [(0, .ref l0), (1, .int l1), (2, .int l2)] [] := by
  unfold g_X12_roundByNearest_4 at hf
  refine z_iload_n 2 dX12_roundByNearest_4 rfl rfl ?_
  refine z_iconst (-1) (-1) dX12_roundByNearest_5 (by decide) ?_
  refine z_icmp_eq 261 hf dX12_roundByNearest_6 (by decide) (fun hf => ?_) (fun hf => ?_)
  · refine z_lv [(0, .ref l0), (1, .int l1)] [0, 1] rfl ?_
    exact zb_X12_roundByNearest_261 hE hf
  · refine z_ldc mw_17_19 dX12_roundByNearest_9 ?_
    refine z_istore_n [(3, .int (268435456 : Int32)), (0, .ref l0), (1, .int l1), (2, .int l2)] dX12_roundByNearest_11 rfl (by decide) rfl ?_
    refine z_iconst (-1) (-1) dX12_roundByNearest_12 (by decide) ?_
    refine z_istore [(4, .int (-1 : Int32)), (3, .int (268435456 : Int32)), (0, .ref l0), (1, .int l1), (2, .int l2)] dX12_roundByNearest_13 (by decide) rfl ?_
    refine z_iconst 0 0 dX12_roundByNearest_15 (by decide) ?_
    refine z_istore [(5, .int (0 : Int32)), (4, .int (-1 : Int32)), (3, .int (268435456 : Int32)), (0, .ref l0), (1, .int l1), (2, .int l2)] dX12_roundByNearest_16 (by decide) rfl ?_
    refine z_iconst (-1) (-1) dX12_roundByNearest_18 (by decide) ?_
    refine z_istore_n [(2, .int (-1 : Int32)), (5, .int (0 : Int32)), (4, .int (-1 : Int32)), (3, .int (268435456 : Int32)), (0, .ref l0), (1, .int l1)] dX12_roundByNearest_19 rfl (by decide) rfl ?_
    refine z_iconst 0 0 dX12_roundByNearest_20 (by decide) ?_
    refine z_istore [(6, .int (0 : Int32)), (2, .int (-1 : Int32)), (5, .int (0 : Int32)), (4, .int (-1 : Int32)), (3, .int (268435456 : Int32)), (0, .ref l0), (1, .int l1)] dX12_roundByNearest_21 (by decide) rfl ?_
    refine z_lv [(0, .ref l0), (1, .int l1), (2, .int (-1 : Int32)), (3, .int (268435456 : Int32)), (4, .int (-1 : Int32)), (5, .int (0 : Int32)), (6, .int (0 : Int32))] [5, 6, 1, 4, 3, 2, 0] rfl ?_
    exact zb_X12_roundByNearest_23 hE hk4 N _ _ _ _ _ _ _ _ hf
set_option maxRecDepth 20000 in
theorem zb_X12_roundByNearest_4 {N : Nat} {sh : Sh} {r : Int32 × Dt} {E : EV} (hE : TG E (some (.int r.1)) (sh, r.2))  : ∀ (n : Nat) (l0 : Nat) (l1 : Int32) (l2 : Int32) (d : Dt), f_X12_roundByNearest_4 N sh n l0 l1 l2 d = some r → Z E yX12_roundByNearest cX12_roundByNearest 9 (some .int) 5 (sh, d) 4 [(0, .ref l0), (1, .int l1), (2, .int l2)] [] := by
  intro n
  induction n with
  | zero => intro l0 l1 l2 d hf; cases hf
  | succ n ih => intro l0 l1 l2 d hf; exact zg_X12_roundByNearest_4 hE ih hf
set_option maxRecDepth 20000 in
theorem zm_X12_roundByNearest {N : Nat} {sh : Sh} {d : Dt} {l0 : Nat} {r : Int32 × Dt} (hf : f_X12_roundByNearest N sh l0 d = some r) : isO sh l0 12 ∧ ∀ (l : Launch) (G : GG), Mt l G yX12_roundByNearest cX12_roundByNearest 9 (some .int) 5 [.ref l0] (sh, d) (some (.int r.1)) (sh, r.2) := by
  have hf0 := hf
  unfold f_X12_roundByNearest at hf
  refine ite_d hf (fun hO hf => ?_) (fun _ hf => ?_)
  · refine ⟨hO, fun l G => mt_of (Or.inl (by decide)) (Nat.le_of_ble_eq_true rfl) Le.rf (fun E hE => ?_)⟩
    show Z E yX12_roundByNearest cX12_roundByNearest 9 (some .int) 5 (sh, d) 0 [(0, .ref l0)] []
    refine z_iconst 0 0 dX12_roundByNearest_0 (by decide) ?_
    refine z_istore_n [(1, .int (0 : Int32)), (0, .ref l0)] dX12_roundByNearest_1 rfl (by decide) rfl ?_
    refine z_iconst 0 0 dX12_roundByNearest_2 (by decide) ?_
    refine z_istore_n [(2, .int (0 : Int32)), (1, .int (0 : Int32)), (0, .ref l0)] dX12_roundByNearest_3 rfl (by decide) rfl ?_
    refine z_lv [(0, .ref l0), (1, .int (0 : Int32)), (2, .int (0 : Int32))] [2, 1, 0] rfl ?_
    exact zb_X12_roundByNearest_4 hE N _ _ _ _ hf
  · cases hf
set_option maxRecDepth 20000 in
theorem zb_X12_roundByPairs_100 {N : Nat} {sh : Sh} {r : Int32 × Dt} {E : EV} (hE : TG E (some (.int r.1)) (sh, r.2))  {l0 : Nat} {l1 : Int32} {d : Dt} (hf : f_X12_roundByPairs_100 N sh l0 l1 d = some r) : Z E yX12_roundByPairs cX12_roundByPairs 3 (some .int) 6 (sh, d) 100 [(0, .ref l0), (1, .int l1)] [] := by
  unfold f_X12_roundByPairs_100 at hf
  refine z_iload_n 1 dX12_roundByPairs_100 rfl rfl ?_
  refine z_sipush 2000 2000 dX12_roundByPairs_101 (by decide) ?_
  refine z_icmp_le 110 hf dX12_roundByPairs_104 (by decide) (fun hf => ?_) (fun hf => ?_)
  · refine z_aload_n 0 dX12_roundByPairs_110 rfl rfl ?_
    obtain ⟨v17, ev17, hf⟩ := ob hf
    refine z_cVv (ci := 12) (T := TX12) (N := 32) (As := []) (rest := []) (zm_X12_drivesAll ev17).2 (zm_X12_drivesAll ev17).1 (by decide) rfl (Or.inl rfl) mw_51_1 mw_51_2 mw_51_3 mw_1_5 mw_51_4 yk_X12_drivesAll (by decide) (by decide) rfl (Nat.le_of_ble_eq_true rfl) rfl dX12_roundByPairs_111 ?_
    refine z_iconst 0 0 dX12_roundByPairs_114 (by decide) ?_
    cases hf
    exact z_ireturn hE rfl dX12_roundByPairs_115
  · refine z_bipush (-3) (-3) dX12_roundByPairs_107 (by decide) ?_
    cases hf
    exact z_ireturn hE rfl dX12_roundByPairs_109
set_option maxRecDepth 20000 in
theorem zg_X12_roundByPairs_75 {N : Nat} {sh : Sh} {r : Int32 × Dt} {k75 : Nat → Int32 → Int32 → Dt → Option (Int32 × Dt)} {E : EV} (hE : TG E (some (.int r.1)) (sh, r.2))  (hk75 : ∀ (l0 : Nat) (l1 : Int32) (l2 : Int32) (d : Dt), k75 l0 l1 l2 d = some r → Z E yX12_roundByPairs cX12_roundByPairs 3 (some .int) 6 (sh, d) 75 [(0, .ref l0), (1, .int l1), (2, .int l2)] []) {l0 : Nat} {l1 : Int32} {l2 : Int32} {d : Dt} (hf : g_X12_roundByPairs_75 N sh k75 l0 l1 l2 d = some r) : Z E yX12_roundByPairs cX12_roundByPairs 3 (some .int) 6 (sh, d) 75 [(0, .ref l0), (1, .int l1), (2, .int l2)] [] := by
  unfold g_X12_roundByPairs_75 at hf
  refine z_iload_n 2 dX12_roundByPairs_75 rfl rfl ?_
  refine z_aload_n 0 dX12_roundByPairs_76 rfl rfl ?_
  refine z_gP (ci := 12) (k := 0) (C := RX12) (T := TX12) (N := 32) rfl inlX12 (by decide) mw_6_19 (fun _ _ _ _ h9 => h9) hf (by decide) rfl dX12_roundByPairs_77  (fun v13 hf => ?_)
  refine z_iconst 1 1 dX12_roundByPairs_80 (by decide) ?_
  refine z_aI hf dX12_roundByPairs_81  (fun v14 hf => ?_)
  refine z_icmp_ge 100 hf dX12_roundByPairs_82 (by decide) (fun hf => ?_) (fun hf => ?_)
  · refine z_lv [(0, .ref l0), (1, .int l1)] [0, 1] rfl ?_
    exact zb_X12_roundByPairs_100 hE hf
  · refine z_iload_n 1 dX12_roundByPairs_85 rfl rfl ?_
    refine z_aload_n 0 dX12_roundByPairs_86 rfl rfl ?_
    refine z_gP (ci := 12) (k := 14) (C := RX12) (T := TX12) (N := 32) rfl inlX12 (by decide) mw_7_4 (fun _ _ _ _ h9 => h9) hf (by decide) rfl dX12_roundByPairs_87  (fun v15 hf => ?_)
    refine z_iload_n 2 dX12_roundByPairs_90 rfl rfl ?_
    refine z_aI hf dX12_roundByPairs_91  (fun v16 hf => ?_)
    refine z_iadd dX12_roundByPairs_92 ?_
    refine z_istore_n [(1, .int (l1 + v16)), (0, .ref l0), (2, .int l2)] dX12_roundByPairs_93 rfl (by decide) rfl ?_
    refine z_iinc [(2, .int (l2 + 1)), (1, .int (l1 + v16)), (0, .ref l0)] 2 (l2 + 1) dX12_roundByPairs_94 rfl rfl (by decide) rfl ?_
    refine z_goto 75 dX12_roundByPairs_97 (by decide) ?_
    refine z_lv [(0, .ref l0), (1, .int (l1 + v16)), (2, .int (l2 + 1))] [2, 1, 0] rfl ?_
    exact hk75 _ _ _ _ hf
set_option maxRecDepth 20000 in
theorem zb_X12_roundByPairs_75 {N : Nat} {sh : Sh} {r : Int32 × Dt} {E : EV} (hE : TG E (some (.int r.1)) (sh, r.2))  : ∀ (n : Nat) (l0 : Nat) (l1 : Int32) (l2 : Int32) (d : Dt), f_X12_roundByPairs_75 N sh n l0 l1 l2 d = some r → Z E yX12_roundByPairs cX12_roundByPairs 3 (some .int) 6 (sh, d) 75 [(0, .ref l0), (1, .int l1), (2, .int l2)] [] := by
  intro n
  induction n with
  | zero => intro l0 l1 l2 d hf; cases hf
  | succ n ih => intro l0 l1 l2 d hf; exact zg_X12_roundByPairs_75 hE ih hf
set_option maxRecDepth 20000 in
theorem zb_X12_roundByPairs_71 {N : Nat} {sh : Sh} {r : Int32 × Dt} {E : EV} (hE : TG E (some (.int r.1)) (sh, r.2))  {l0 : Nat} {d : Dt} (hf : f_X12_roundByPairs_71 N sh l0 d = some r) : Z E yX12_roundByPairs cX12_roundByPairs 3 (some .int) 6 (sh, d) 71 [(0, .ref l0)] [] := by
  unfold f_X12_roundByPairs_71 at hf
  refine z_iconst 0 0 dX12_roundByPairs_71 (by decide) ?_
  refine z_istore_n [(1, .int (0 : Int32)), (0, .ref l0)] dX12_roundByPairs_72 rfl (by decide) rfl ?_
  refine z_iconst 0 0 dX12_roundByPairs_73 (by decide) ?_
  refine z_istore_n [(2, .int (0 : Int32)), (1, .int (0 : Int32)), (0, .ref l0)] dX12_roundByPairs_74 rfl (by decide) rfl ?_
  refine z_lv [(0, .ref l0), (1, .int (0 : Int32)), (2, .int (0 : Int32))] [2, 1, 0] rfl ?_
  exact zb_X12_roundByPairs_75 hE N _ _ _ _ hf
set_option maxRecDepth 20000 in
theorem zg_X12_roundByPairs_40 {N : Nat} {sh : Sh} {r : Int32 × Dt} {k40 : Nat → Int32 → Dt → Option (Int32 × Dt)} {E : EV} (hE : TG E (some (.int r.1)) (sh, r.2))  (hk40 : ∀ (l0 : Nat) (l1 : Int32) (d : Dt), k40 l0 l1 d = some r → Z E yX12_roundByPairs cX12_roundByPairs 3 (some .int) 6 (sh, d) 40 [(0, .ref l0), (1, .int l1)] []) {l0 : Nat} {l1 : Int32} {d : Dt} (hf : g_X12_roundByPairs_40 N sh k40 l0 l1 d = some r) : Z E yX12_roundByPairs cX12_roundByPairs 3 (some .int) 6 (sh, d) 40 [(0, .ref l0), (1, .int l1)] [] := by
  unfold g_X12_roundByPairs_40 at hf
  refine z_iload_n 1 dX12_roundByPairs_40 rfl rfl ?_
  refine z_aload_n 0 dX12_roundByPairs_41 rfl rfl ?_
  refine z_gI (ci := 12) (k := 21) (C := RX12) (T := TX12) (N := 32) rfl inlX12 (by decide) mw_48_19 (fun _ _ _ _ h9 => h9) hf (by decide) rfl dX12_roundByPairs_42  (fun v7 hf => ?_)
  refine z_icmp_ge 71 hf dX12_roundByPairs_45 (by decide) (fun hf => ?_) (fun hf => ?_)
  · refine z_lv [(0, .ref l0)] [0] rfl ?_
    exact zb_X12_roundByPairs_71 hE hf
  · refine z_aload_n 0 dX12_roundByPairs_48 rfl rfl ?_
    refine z_aload_n 0 dX12_roundByPairs_49 rfl rfl ?_
    refine z_gP (ci := 12) (k := 22) (C := RX12) (T := TX12) (N := 32) rfl inlX12 (by decide) mw_7_8 (fun _ _ _ _ h9 => h9) hf (by decide) rfl dX12_roundByPairs_50  (fun v8 hf => ?_)
    refine z_iload_n 1 dX12_roundByPairs_53 rfl rfl ?_
    refine z_aI hf dX12_roundByPairs_54  (fun v9 hf => ?_)
    refine z_aload_n 0 dX12_roundByPairs_55 rfl rfl ?_
    refine z_gP (ci := 12) (k := 23) (C := RX12) (T := TX12) (N := 32) rfl inlX12 (by decide) mw_7_9 (fun _ _ _ _ h9 => h9) hf (by decide) rfl dX12_roundByPairs_56  (fun v10 hf => ?_)
    refine z_iload_n 1 dX12_roundByPairs_59 rfl rfl ?_
    refine z_aI hf dX12_roundByPairs_60  (fun v11 hf => ?_)
    refine z_iconst 1 1 dX12_roundByPairs_61 (by decide) ?_
    obtain ⟨v12, ev12, hf⟩ := ob hf
    refine z_cVv (ci := 12) (T := TX12) (N := 32) (As := [.int v9, .int v11, .int (1 : Int32)]) (rest := []) (zm_X12_adds ev12).2 (zm_X12_adds ev12).1 (by decide) rfl (Or.inl rfl) mw_50_5 mw_50_6 mw_50_7 mw_1_5 mw_50_8 yk_X12_adds (by decide) (by decide) rfl (Nat.le_of_ble_eq_true rfl) rfl dX12_roundByPairs_62 ?_
    refine z_iinc [(1, .int (l1 + 1)), (0, .ref l0)] 1 (l1 + 1) dX12_roundByPairs_65 rfl rfl (by decide) rfl ?_
    refine z_goto 40 dX12_roundByPairs_68 (by decide) ?_
    refine z_lv [(0, .ref l0), (1, .int (l1 + 1))] [1, 0] rfl ?_
    exact hk40 _ _ _ hf
set_option maxRecDepth 20000 in
theorem zb_X12_roundByPairs_40 {N : Nat} {sh : Sh} {r : Int32 × Dt} {E : EV} (hE : TG E (some (.int r.1)) (sh, r.2))  : ∀ (n : Nat) (l0 : Nat) (l1 : Int32) (d : Dt), f_X12_roundByPairs_40 N sh n l0 l1 d = some r → Z E yX12_roundByPairs cX12_roundByPairs 3 (some .int) 6 (sh, d) 40 [(0, .ref l0), (1, .int l1)] [] := by
  intro n
  induction n with
  | zero => intro l0 l1 d hf; cases hf
  | succ n ih => intro l0 l1 d hf; exact zg_X12_roundByPairs_40 hE ih hf
set_option maxRecDepth 20000 in
theorem zb_X12_roundByPairs_38 {N : Nat} {sh : Sh} {r : Int32 × Dt} {E : EV} (hE : TG E (some (.int r.1)) (sh, r.2))  {l0 : Nat} {d : Dt} (hf : f_X12_roundByPairs_38 N sh l0 d = some r) : Z E yX12_roundByPairs cX12_roundByPairs 3 (some .int) 6 (sh, d) 38 [(0, .ref l0)] [] := by
  unfold f_X12_roundByPairs_38 at hf
  refine z_iconst 0 0 dX12_roundByPairs_38 (by decide) ?_
  refine z_istore_n [(1, .int (0 : Int32)), (0, .ref l0)] dX12_roundByPairs_39 rfl (by decide) rfl ?_
  refine z_lv [(0, .ref l0), (1, .int (0 : Int32))] [1, 0] rfl ?_
  exact zb_X12_roundByPairs_40 hE N _ _ _ hf
set_option maxRecDepth 20000 in
theorem zm_X12_roundByPairs {N : Nat} {sh : Sh} {d : Dt} {l0 : Nat} {r : Int32 × Dt} (hf : f_X12_roundByPairs N sh l0 d = some r) : isO sh l0 12 ∧ ∀ (l : Launch) (G : GG), Mt l G yX12_roundByPairs cX12_roundByPairs 3 (some .int) 6 [.ref l0] (sh, d) (some (.int r.1)) (sh, r.2) := by
  have hf0 := hf
  unfold f_X12_roundByPairs at hf
  refine ite_d hf (fun hO hf => ?_) (fun _ hf => ?_)
  · refine ⟨hO, fun l G => mt_of (Or.inl (by decide)) (Nat.le_of_ble_eq_true rfl) Le.rf (fun E hE => ?_)⟩
    show Z E yX12_roundByPairs cX12_roundByPairs 3 (some .int) 6 (sh, d) 0 [(0, .ref l0)] []
    refine z_aload_n 0 dX12_roundByPairs_0 rfl rfl ?_
    obtain ⟨v1, ev1, hf⟩ := ob hf
    refine z_cVv (ci := 12) (T := TX12) (N := 32) (As := []) (rest := []) (zm_X12_beginTimes ev1).2 (zm_X12_beginTimes ev1).1 (by decide) rfl (Or.inl rfl) mw_40_9 mw_40_10 mw_40_11 mw_1_5 mw_40_12 yk_X12_beginTimes (by decide) (by decide) rfl (Nat.le_of_ble_eq_true rfl) rfl dX12_roundByPairs_1 ?_
    refine z_aload_n 0 dX12_roundByPairs_4 rfl rfl ?_
    obtain ⟨v2, ev2, hf⟩ := ob hf
    refine z_cVi (ci := 12) (T := TX12) (N := 32) (As := []) (rest := []) (zm_X12_joinsAll ev2).2 (zm_X12_joinsAll ev2).1 (by decide) rfl (Or.inl rfl) mw_49_13 mw_49_14 mw_49_15 mw_1_5 mw_49_16 yk_X12_joinsAll (by decide) (by decide) rfl (Nat.le_of_ble_eq_true rfl) rfl dX12_roundByPairs_5 ?_
    refine z_if_ne 14 hf dX12_roundByPairs_8 (by decide) (fun hf => ?_) (fun hf => ?_)
    · refine z_aload_n 0 dX12_roundByPairs_14 rfl rfl ?_
      obtain ⟨v3, ev3, hf⟩ := ob hf
      refine z_cVv (ci := 12) (T := TX12) (N := 32) (As := []) (rest := []) (zm_X12_findOdd ev3).2 (zm_X12_findOdd ev3).1 (by decide) rfl (Or.inl rfl) mw_40_17 mw_40_18 mw_40_19 mw_1_5 mw_40_20 yk_X12_findOdd (by decide) (by decide) rfl (Nat.le_of_ble_eq_true rfl) rfl dX12_roundByPairs_15 ?_
      refine z_aload_n 0 dX12_roundByPairs_18 rfl rfl ?_
      refine z_gI (ci := 12) (k := 16) (C := RX12) (T := TX12) (N := 32) rfl inlX12 (by decide) mw_40_8 (fun _ _ _ _ h9 => h9) hf (by decide) rfl dX12_roundByPairs_19  (fun v4 hf => ?_)
      refine z_bipush 14 14 dX12_roundByPairs_22 (by decide) ?_
      refine z_icmp_gt 34 hf dX12_roundByPairs_24 (by decide) (fun hf => ?_) (fun hf => ?_)
      · refine z_aload_n 0 dX12_roundByPairs_34 rfl rfl ?_
        obtain ⟨v5, ev5, hf⟩ := ob hf
        refine z_cVv (ci := 12) (T := TX12) (N := 32) (As := []) (rest := []) (zm_X12_pairsInOrder ev5).2 (zm_X12_pairsInOrder ev5).1 (by decide) rfl (Or.inl rfl) mw_50_17 mw_50_18 mw_50_19 mw_1_5 mw_50_20 yk_X12_pairsInOrder (by decide) (by decide) rfl (Nat.le_of_ble_eq_true rfl) rfl dX12_roundByPairs_35 ?_
        exact zb_X12_roundByPairs_38 hE hf
      · refine z_aload_n 0 dX12_roundByPairs_27 rfl rfl ?_
        obtain ⟨v6, ev6, hf⟩ := ob hf
        refine z_cVv (ci := 12) (T := TX12) (N := 32) (As := []) (rest := []) (zm_X12_pairsLeast ev6).2 (zm_X12_pairsLeast ev6).1 (by decide) rfl (Or.inl rfl) mw_50_9 mw_50_10 mw_50_11 mw_1_5 mw_50_12 yk_X12_pairsLeast (by decide) (by decide) rfl (Nat.le_of_ble_eq_true rfl) rfl dX12_roundByPairs_28 ?_
        refine z_goto 38 dX12_roundByPairs_31 (by decide) ?_
        exact zb_X12_roundByPairs_38 hE hf
    · refine z_bipush (-8) (-8) dX12_roundByPairs_11 (by decide) ?_
      cases hf
      exact z_ireturn hE rfl dX12_roundByPairs_13
  · cases hf
