set_option maxRecDepth 20000 in
theorem zb_X12_round_319 {N : Nat} {sh : Sh} {r : Int32 × Dt} {E : EV} (hE : TG E (some (.int r.1)) (sh, r.2))  {l0 : Nat} {d : Dt} (hf : f_X12_round_319 N sh l0 d = some r) : Z E yX12_round cX12_round 4 (some .int) 7 (sh, d) 319 [(0, .ref l0)] [] := by
  unfold f_X12_round_319 at hf
  refine z_aload_n 0 dX12_round_319 rfl rfl ?_
  refine z_aload_n 0 dX12_round_320 rfl rfl ?_
  refine z_gI (ci := 12) (k := 24) (C := RX12) (T := TX12) (N := 32) rfl inlX12 (by decide) mw_48_20 (fun _ _ _ _ h9 => h9) hf (by decide) rfl dX12_round_321  (fun v58 hf => ?_)
  obtain ⟨v59, ev59, hf⟩ := ob hf
  refine z_cVi (ci := 12) (T := TX12) (N := 32) (As := [.int v58]) (rest := []) (zm_X12_says ev59).2 (zm_X12_says ev59).1 (by decide) rfl (Or.inl rfl) mw_12_4 mw_12_5 mw_12_6 mw_1_5 mw_12_7 yk_X12_says (by decide) (by decide) rfl (Nat.le_of_ble_eq_true rfl) rfl dX12_round_324 ?_
  cases hf
  exact z_ireturn hE rfl dX12_round_327
set_option maxRecDepth 20000 in
theorem zg_X12_round_298 {N : Nat} {sh : Sh} {r : Int32 × Dt} {k298 : Nat → Int32 → Dt → Option (Int32 × Dt)} {E : EV} (hE : TG E (some (.int r.1)) (sh, r.2))  (hk298 : ∀ (l0 : Nat) (l3 : Int32) (d : Dt), k298 l0 l3 d = some r → Z E yX12_round cX12_round 4 (some .int) 7 (sh, d) 298 [(0, .ref l0), (3, .int l3)] []) {l0 : Nat} {l3 : Int32} {d : Dt} (hf : g_X12_round_298 N sh k298 l0 l3 d = some r) : Z E yX12_round cX12_round 4 (some .int) 7 (sh, d) 298 [(0, .ref l0), (3, .int l3)] [] := by
  unfold g_X12_round_298 at hf
  refine z_iload_n 1 dX12_round_298 rfl rfl ?_
  refine z_aload_n 0 dX12_round_299 rfl rfl ?_
  refine z_gP (ci := 12) (k := 0) (C := RX12) (T := TX12) (N := 32) rfl inlX12 (by decide) mw_6_19 (fun _ _ _ _ h9 => h9) hf (by decide) rfl dX12_round_300  (fun v55 hf => ?_)
  refine z_iconst 3 3 dX12_round_303 (by decide) ?_
  refine z_aI hf dX12_round_304  (fun v56 hf => ?_)
  refine z_icmp_ge 319 hf dX12_round_305 (by decide) (fun hf => ?_) (fun hf => ?_)
  · refine z_lv [(0, .ref l0)] [0] rfl ?_
    exact zb_X12_round_319 hE hf
  · refine z_aload_n 0 dX12_round_308 rfl rfl ?_
    refine z_iload_n 1 dX12_round_309 rfl rfl ?_
    obtain ⟨v57, ev57, hf⟩ := ob hf
    refine z_cVv (ci := 12) (T := TX12) (N := 32) (As := [.int l3]) (rest := []) (zm_X12_losesPart ev57).2 (zm_X12_losesPart ev57).1 (by decide) rfl (Or.inl rfl) mw_33_11 mw_33_12 mw_33_13 mw_1_5 mw_33_14 yk_X12_losesPart (by decide) (by decide) rfl (Nat.le_of_ble_eq_true rfl) rfl dX12_round_310 ?_
    refine z_iinc [(3, .int (l3 + 1)), (0, .ref l0)] 1 (l3 + 1) dX12_round_313 rfl rfl (by decide) rfl ?_
    refine z_goto 298 dX12_round_316 (by decide) ?_
    refine z_lv [(0, .ref l0), (3, .int (l3 + 1))] [1, 0] rfl ?_
    exact hk298 _ _ _ hf
set_option maxRecDepth 20000 in
theorem zb_X12_round_298 {N : Nat} {sh : Sh} {r : Int32 × Dt} {E : EV} (hE : TG E (some (.int r.1)) (sh, r.2))  : ∀ (n : Nat) (l0 : Nat) (l3 : Int32) (d : Dt), f_X12_round_298 N sh n l0 l3 d = some r → Z E yX12_round cX12_round 4 (some .int) 7 (sh, d) 298 [(0, .ref l0), (3, .int l3)] [] := by
  intro n
  induction n with
  | zero => intro l0 l3 d hf; cases hf
  | succ n ih => intro l0 l3 d hf; exact zg_X12_round_298 hE ih hf
set_option maxRecDepth 20000 in
theorem zb_X12_round_296 {N : Nat} {sh : Sh} {r : Int32 × Dt} {E : EV} (hE : TG E (some (.int r.1)) (sh, r.2))  {l0 : Nat} {d : Dt} (hf : f_X12_round_296 N sh l0 d = some r) : Z E yX12_round cX12_round 4 (some .int) 7 (sh, d) 296 [(0, .ref l0)] [] := by
  unfold f_X12_round_296 at hf
  refine z_iconst 0 0 dX12_round_296 (by decide) ?_
  refine z_istore_n [(3, .int (0 : Int32)), (0, .ref l0)] dX12_round_297 rfl (by decide) rfl ?_
  refine z_lv [(0, .ref l0), (3, .int (0 : Int32))] [1, 0] rfl ?_
  exact zb_X12_round_298 hE N _ _ _ hf
set_option maxRecDepth 20000 in
theorem zg_X12_round_224 {N : Nat} {sh : Sh} {r : Int32 × Dt} {k224 : Nat → Int32 → Dt → Option (Int32 × Dt)} {E : EV} (hE : TG E (some (.int r.1)) (sh, r.2))  (hk224 : ∀ (l0 : Nat) (l3 : Int32) (d : Dt), k224 l0 l3 d = some r → Z E yX12_round cX12_round 4 (some .int) 7 (sh, d) 224 [(0, .ref l0), (3, .int l3)] []) {l0 : Nat} {l3 : Int32} {d : Dt} (hf : g_X12_round_224 N sh k224 l0 l3 d = some r) : Z E yX12_round cX12_round 4 (some .int) 7 (sh, d) 224 [(0, .ref l0), (3, .int l3)] [] := by
  unfold g_X12_round_224 at hf
  refine z_iload_n 1 dX12_round_224 rfl rfl ?_
  refine z_aload_n 0 dX12_round_225 rfl rfl ?_
  refine z_gI (ci := 12) (k := 24) (C := RX12) (T := TX12) (N := 32) rfl inlX12 (by decide) mw_48_20 (fun _ _ _ _ h9 => h9) hf (by decide) rfl dX12_round_226  (fun v42 hf => ?_)
  refine z_icmp_ge 296 hf dX12_round_229 (by decide) (fun hf => ?_) (fun hf => ?_)
  · refine z_lv [(0, .ref l0)] [0] rfl ?_
    exact zb_X12_round_296 hE hf
  · refine z_aload_n 0 dX12_round_232 rfl rfl ?_
    refine z_gP (ci := 12) (k := 0) (C := RX12) (T := TX12) (N := 32) rfl inlX12 (by decide) mw_6_19 (fun _ _ _ _ h9 => h9) hf (by decide) rfl dX12_round_233  (fun v43 hf => ?_)
    refine z_sipush 9642 9642 dX12_round_236 (by decide) ?_
    refine z_iconst 3 3 dX12_round_239 (by decide) ?_
    refine z_iload_n 1 dX12_round_240 rfl rfl ?_
    refine z_imul dX12_round_241 ?_
    refine z_iadd dX12_round_242 ?_
    refine z_aload_n 0 dX12_round_243 rfl rfl ?_
    refine z_gP (ci := 12) (k := 25) (C := RX12) (T := TX12) (N := 32) rfl inlX12 (by decide) mw_7_10 (fun _ _ _ _ h9 => h9) hf (by decide) rfl dX12_round_244  (fun v44 hf => ?_)
    refine z_iload_n 1 dX12_round_247 rfl rfl ?_
    refine z_aI hf dX12_round_248  (fun v45 hf => ?_)
    refine z_sI hf dX12_round_249  (fun d46 hf => ?_)
    refine z_aload_n 0 dX12_round_250 rfl rfl ?_
    refine z_gP (ci := 12) (k := 0) (C := RX12) (T := TX12) (N := 32) rfl inlX12 (by decide) mw_6_19 (fun _ _ _ _ h9 => h9) hf (by decide) rfl dX12_round_251  (fun v47 hf => ?_)
    refine z_sipush 9642 9642 dX12_round_254 (by decide) ?_
    refine z_iconst 3 3 dX12_round_257 (by decide) ?_
    refine z_iload_n 1 dX12_round_258 rfl rfl ?_
    refine z_imul dX12_round_259 ?_
    refine z_iadd dX12_round_260 ?_
    refine z_iconst 1 1 dX12_round_261 (by decide) ?_
    refine z_iadd dX12_round_262 ?_
    refine z_aload_n 0 dX12_round_263 rfl rfl ?_
    refine z_gP (ci := 12) (k := 26) (C := RX12) (T := TX12) (N := 32) rfl inlX12 (by decide) mw_7_11 (fun _ _ _ _ h9 => h9) hf (by decide) rfl dX12_round_264  (fun v48 hf => ?_)
    refine z_iload_n 1 dX12_round_267 rfl rfl ?_
    refine z_aI hf dX12_round_268  (fun v49 hf => ?_)
    refine z_sI hf dX12_round_269  (fun d50 hf => ?_)
    refine z_aload_n 0 dX12_round_270 rfl rfl ?_
    refine z_gP (ci := 12) (k := 0) (C := RX12) (T := TX12) (N := 32) rfl inlX12 (by decide) mw_6_19 (fun _ _ _ _ h9 => h9) hf (by decide) rfl dX12_round_271  (fun v51 hf => ?_)
    refine z_sipush 9642 9642 dX12_round_274 (by decide) ?_
    refine z_iconst 3 3 dX12_round_277 (by decide) ?_
    refine z_iload_n 1 dX12_round_278 rfl rfl ?_
    refine z_imul dX12_round_279 ?_
    refine z_iadd dX12_round_280 ?_
    refine z_iconst 2 2 dX12_round_281 (by decide) ?_
    refine z_iadd dX12_round_282 ?_
    refine z_aload_n 0 dX12_round_283 rfl rfl ?_
    refine z_gP (ci := 12) (k := 27) (C := RX12) (T := TX12) (N := 32) rfl inlX12 (by decide) mw_7_12 (fun _ _ _ _ h9 => h9) hf (by decide) rfl dX12_round_284  (fun v52 hf => ?_)
    refine z_iload_n 1 dX12_round_287 rfl rfl ?_
    refine z_aI hf dX12_round_288  (fun v53 hf => ?_)
    refine z_sI hf dX12_round_289  (fun d54 hf => ?_)
    refine z_iinc [(3, .int (l3 + 1)), (0, .ref l0)] 1 (l3 + 1) dX12_round_290 rfl rfl (by decide) rfl ?_
    refine z_goto 224 dX12_round_293 (by decide) ?_
    refine z_lv [(0, .ref l0), (3, .int (l3 + 1))] [1, 0] rfl ?_
    exact hk224 _ _ _ hf
set_option maxRecDepth 20000 in
theorem zb_X12_round_224 {N : Nat} {sh : Sh} {r : Int32 × Dt} {E : EV} (hE : TG E (some (.int r.1)) (sh, r.2))  : ∀ (n : Nat) (l0 : Nat) (l3 : Int32) (d : Dt), f_X12_round_224 N sh n l0 l3 d = some r → Z E yX12_round cX12_round 4 (some .int) 7 (sh, d) 224 [(0, .ref l0), (3, .int l3)] [] := by
  intro n
  induction n with
  | zero => intro l0 l3 d hf; cases hf
  | succ n ih => intro l0 l3 d hf; exact zg_X12_round_224 hE ih hf
set_option maxRecDepth 20000 in
theorem zb_X12_round_222 {N : Nat} {sh : Sh} {r : Int32 × Dt} {E : EV} (hE : TG E (some (.int r.1)) (sh, r.2))  {l0 : Nat} {d : Dt} (hf : f_X12_round_222 N sh l0 d = some r) : Z E yX12_round cX12_round 4 (some .int) 7 (sh, d) 222 [(0, .ref l0)] [] := by
  unfold f_X12_round_222 at hf
  refine z_iconst 0 0 dX12_round_222 (by decide) ?_
  refine z_istore_n [(3, .int (0 : Int32)), (0, .ref l0)] dX12_round_223 rfl (by decide) rfl ?_
  refine z_lv [(0, .ref l0), (3, .int (0 : Int32))] [1, 0] rfl ?_
  exact zb_X12_round_224 hE N _ _ _ hf
set_option maxRecDepth 20000 in
theorem zg_X12_round_166 {N : Nat} {sh : Sh} {r : Int32 × Dt} {k166 : Nat → Int32 → Dt → Option (Int32 × Dt)} {E : EV} (hE : TG E (some (.int r.1)) (sh, r.2))  (hk166 : ∀ (l0 : Nat) (l3 : Int32) (d : Dt), k166 l0 l3 d = some r → Z E yX12_round cX12_round 4 (some .int) 7 (sh, d) 166 [(0, .ref l0), (3, .int l3)] []) {l0 : Nat} {l3 : Int32} {d : Dt} (hf : g_X12_round_166 N sh k166 l0 l3 d = some r) : Z E yX12_round cX12_round 4 (some .int) 7 (sh, d) 166 [(0, .ref l0), (3, .int l3)] [] := by
  unfold g_X12_round_166 at hf
  refine z_iload_n 1 dX12_round_166 rfl rfl ?_
  refine z_aload_n 0 dX12_round_167 rfl rfl ?_
  refine z_gI (ci := 12) (k := 21) (C := RX12) (T := TX12) (N := 32) rfl inlX12 (by decide) mw_48_19 (fun _ _ _ _ h9 => h9) hf (by decide) rfl dX12_round_168  (fun v29 hf => ?_)
  refine z_icmp_ge 222 hf dX12_round_171 (by decide) (fun hf => ?_) (fun hf => ?_)
  · refine z_lv [(0, .ref l0)] [0] rfl ?_
    exact zb_X12_round_222 hE hf
  · refine z_aload_n 0 dX12_round_174 rfl rfl ?_
    refine z_gP (ci := 12) (k := 0) (C := RX12) (T := TX12) (N := 32) rfl inlX12 (by decide) mw_6_19 (fun _ _ _ _ h9 => h9) hf (by decide) rfl dX12_round_175  (fun v30 hf => ?_)
    refine z_sipush 9582 9582 dX12_round_178 (by decide) ?_
    refine z_aload_n 0 dX12_round_181 rfl rfl ?_
    refine z_gP (ci := 12) (k := 22) (C := RX12) (T := TX12) (N := 32) rfl inlX12 (by decide) mw_7_8 (fun _ _ _ _ h9 => h9) hf (by decide) rfl dX12_round_182  (fun v31 hf => ?_)
    refine z_iload_n 1 dX12_round_185 rfl rfl ?_
    refine z_aI hf dX12_round_186  (fun v32 hf => ?_)
    refine z_iadd dX12_round_187 ?_
    refine z_aload_n 0 dX12_round_188 rfl rfl ?_
    refine z_gP (ci := 12) (k := 23) (C := RX12) (T := TX12) (N := 32) rfl inlX12 (by decide) mw_7_9 (fun _ _ _ _ h9 => h9) hf (by decide) rfl dX12_round_189  (fun v33 hf => ?_)
    refine z_iload_n 1 dX12_round_192 rfl rfl ?_
    refine z_aI hf dX12_round_193  (fun v34 hf => ?_)
    refine z_sI hf dX12_round_194  (fun d35 hf => ?_)
    refine z_aload_n 0 dX12_round_195 rfl rfl ?_
    refine z_gP (ci := 12) (k := 0) (C := RX12) (T := TX12) (N := 32) rfl inlX12 (by decide) mw_6_19 (fun _ _ _ _ h9 => h9) hf (by decide) rfl dX12_round_196  (fun v36 hf => ?_)
    refine z_sipush 9582 9582 dX12_round_199 (by decide) ?_
    refine z_aload_n 0 dX12_round_202 rfl rfl ?_
    refine z_gP (ci := 12) (k := 23) (C := RX12) (T := TX12) (N := 32) rfl inlX12 (by decide) mw_7_9 (fun _ _ _ _ h9 => h9) hf (by decide) rfl dX12_round_203  (fun v37 hf => ?_)
    refine z_iload_n 1 dX12_round_206 rfl rfl ?_
    refine z_aI hf dX12_round_207  (fun v38 hf => ?_)
    refine z_iadd dX12_round_208 ?_
    refine z_aload_n 0 dX12_round_209 rfl rfl ?_
    refine z_gP (ci := 12) (k := 22) (C := RX12) (T := TX12) (N := 32) rfl inlX12 (by decide) mw_7_8 (fun _ _ _ _ h9 => h9) hf (by decide) rfl dX12_round_210  (fun v39 hf => ?_)
    refine z_iload_n 1 dX12_round_213 rfl rfl ?_
    refine z_aI hf dX12_round_214  (fun v40 hf => ?_)
    refine z_sI hf dX12_round_215  (fun d41 hf => ?_)
    refine z_iinc [(3, .int (l3 + 1)), (0, .ref l0)] 1 (l3 + 1) dX12_round_216 rfl rfl (by decide) rfl ?_
    refine z_goto 166 dX12_round_219 (by decide) ?_
    refine z_lv [(0, .ref l0), (3, .int (l3 + 1))] [1, 0] rfl ?_
    exact hk166 _ _ _ hf
set_option maxRecDepth 20000 in
theorem zb_X12_round_166 {N : Nat} {sh : Sh} {r : Int32 × Dt} {E : EV} (hE : TG E (some (.int r.1)) (sh, r.2))  : ∀ (n : Nat) (l0 : Nat) (l3 : Int32) (d : Dt), f_X12_round_166 N sh n l0 l3 d = some r → Z E yX12_round cX12_round 4 (some .int) 7 (sh, d) 166 [(0, .ref l0), (3, .int l3)] [] := by
  intro n
  induction n with
  | zero => intro l0 l3 d hf; cases hf
  | succ n ih => intro l0 l3 d hf; exact zg_X12_round_166 hE ih hf
set_option maxRecDepth 20000 in
theorem zb_X12_round_164 {N : Nat} {sh : Sh} {r : Int32 × Dt} {E : EV} (hE : TG E (some (.int r.1)) (sh, r.2))  {l0 : Nat} {d : Dt} (hf : f_X12_round_164 N sh l0 d = some r) : Z E yX12_round cX12_round 4 (some .int) 7 (sh, d) 164 [(0, .ref l0)] [] := by
  unfold f_X12_round_164 at hf
  refine z_iconst 0 0 dX12_round_164 (by decide) ?_
  refine z_istore_n [(3, .int (0 : Int32)), (0, .ref l0)] dX12_round_165 rfl (by decide) rfl ?_
  refine z_lv [(0, .ref l0), (3, .int (0 : Int32))] [1, 0] rfl ?_
  exact zb_X12_round_166 hE N _ _ _ hf
set_option maxRecDepth 20000 in
theorem zg_X12_round_141 {N : Nat} {sh : Sh} {r : Int32 × Dt} {k141 : Nat → Int32 → Dt → Option (Int32 × Dt)} {E : EV} (hE : TG E (some (.int r.1)) (sh, r.2))  (hk141 : ∀ (l0 : Nat) (l3 : Int32) (d : Dt), k141 l0 l3 d = some r → Z E yX12_round cX12_round 4 (some .int) 7 (sh, d) 141 [(0, .ref l0), (3, .int l3)] []) {l0 : Nat} {l3 : Int32} {d : Dt} (hf : g_X12_round_141 N sh k141 l0 l3 d = some r) : Z E yX12_round cX12_round 4 (some .int) 7 (sh, d) 141 [(0, .ref l0), (3, .int l3)] [] := by
  unfold g_X12_round_141 at hf
  refine z_iload_n 1 dX12_round_141 rfl rfl ?_
  refine z_bipush 60 60 dX12_round_142 (by decide) ?_
  refine z_icmp_ge 164 hf dX12_round_144 (by decide) (fun hf => ?_) (fun hf => ?_)
  · refine z_lv [(0, .ref l0)] [0] rfl ?_
    exact zb_X12_round_164 hE hf
  · refine z_aload_n 0 dX12_round_147 rfl rfl ?_
    refine z_gP (ci := 12) (k := 0) (C := RX12) (T := TX12) (N := 32) rfl inlX12 (by decide) mw_6_19 (fun _ _ _ _ h9 => h9) hf (by decide) rfl dX12_round_148  (fun v27 hf => ?_)
    refine z_sipush 9582 9582 dX12_round_151 (by decide) ?_
    refine z_iload_n 1 dX12_round_154 rfl rfl ?_
    refine z_iadd dX12_round_155 ?_
    refine z_iconst (-1) (-1) dX12_round_156 (by decide) ?_
    refine z_sI hf dX12_round_157  (fun d28 hf => ?_)
    refine z_iinc [(3, .int (l3 + 1)), (0, .ref l0)] 1 (l3 + 1) dX12_round_158 rfl rfl (by decide) rfl ?_
    refine z_goto 141 dX12_round_161 (by decide) ?_
    refine z_lv [(0, .ref l0), (3, .int (l3 + 1))] [1, 0] rfl ?_
    exact hk141 _ _ _ hf
set_option maxRecDepth 20000 in
theorem zb_X12_round_141 {N : Nat} {sh : Sh} {r : Int32 × Dt} {E : EV} (hE : TG E (some (.int r.1)) (sh, r.2))  : ∀ (n : Nat) (l0 : Nat) (l3 : Int32) (d : Dt), f_X12_round_141 N sh n l0 l3 d = some r → Z E yX12_round cX12_round 4 (some .int) 7 (sh, d) 141 [(0, .ref l0), (3, .int l3)] [] := by
  intro n
  induction n with
  | zero => intro l0 l3 d hf; cases hf
  | succ n ih => intro l0 l3 d hf; exact zg_X12_round_141 hE ih hf
set_option maxRecDepth 20000 in
theorem zb_X12_round_105 {N : Nat} {sh : Sh} {r : Int32 × Dt} {E : EV} (hE : TG E (some (.int r.1)) (sh, r.2))  {l0 : Nat} {t0 : Nat} {t1 : Int32} {t2 : Int32} {d : Dt} (hf : f_X12_round_105 N sh l0 t0 t1 t2 d = some r) : Z E yX12_round cX12_round 4 (some .int) 7 (sh, d) 105 [(0, .ref l0)] [.int t2, .int t1, .ref t0] := by
  unfold f_X12_round_105 at hf
  refine z_sI hf dX12_round_105  (fun d17 hf => ?_)
  refine z_aload_n 0 dX12_round_106 rfl rfl ?_
  refine z_gP (ci := 12) (k := 0) (C := RX12) (T := TX12) (N := 32) rfl inlX12 (by decide) mw_6_19 (fun _ _ _ _ h9 => h9) hf (by decide) rfl dX12_round_107  (fun v18 hf => ?_)
  refine z_bipush 6 6 dX12_round_110 (by decide) ?_
  refine z_aload_n 0 dX12_round_112 rfl rfl ?_
  refine z_gI (ci := 12) (k := 19) (C := RX12) (T := TX12) (N := 32) rfl inlX12 (by decide) mw_48_17 (fun _ _ _ _ h9 => h9) hf (by decide) rfl dX12_round_113  (fun v19 hf => ?_)
  refine z_sI hf dX12_round_116  (fun d20 hf => ?_)
  refine z_aload_n 0 dX12_round_117 rfl rfl ?_
  refine z_gP (ci := 12) (k := 0) (C := RX12) (T := TX12) (N := 32) rfl inlX12 (by decide) mw_6_19 (fun _ _ _ _ h9 => h9) hf (by decide) rfl dX12_round_118  (fun v21 hf => ?_)
  refine z_bipush 7 7 dX12_round_121 (by decide) ?_
  refine z_aload_n 0 dX12_round_123 rfl rfl ?_
  refine z_gI (ci := 12) (k := 20) (C := RX12) (T := TX12) (N := 32) rfl inlX12 (by decide) mw_48_18 (fun _ _ _ _ h9 => h9) hf (by decide) rfl dX12_round_124  (fun v22 hf => ?_)
  refine z_sI hf dX12_round_127  (fun d23 hf => ?_)
  refine z_aload_n 0 dX12_round_128 rfl rfl ?_
  refine z_gP (ci := 12) (k := 0) (C := RX12) (T := TX12) (N := 32) rfl inlX12 (by decide) mw_6_19 (fun _ _ _ _ h9 => h9) hf (by decide) rfl dX12_round_129  (fun v24 hf => ?_)
  refine z_bipush 8 8 dX12_round_132 (by decide) ?_
  refine z_aload_n 0 dX12_round_134 rfl rfl ?_
  refine z_gI (ci := 12) (k := 21) (C := RX12) (T := TX12) (N := 32) rfl inlX12 (by decide) mw_48_19 (fun _ _ _ _ h9 => h9) hf (by decide) rfl dX12_round_135  (fun v25 hf => ?_)
  refine z_sI hf dX12_round_138  (fun d26 hf => ?_)
  refine z_iconst 0 0 dX12_round_139 (by decide) ?_
  refine z_istore_n [(3, .int (0 : Int32)), (0, .ref l0)] dX12_round_140 rfl (by decide) rfl ?_
  refine z_lv [(0, .ref l0), (3, .int (0 : Int32))] [1, 0] rfl ?_
  exact zb_X12_round_141 hE N _ _ _ hf
set_option maxRecDepth 20000 in
theorem zb_X12_round_66 {N : Nat} {sh : Sh} {r : Int32 × Dt} {E : EV} (hE : TG E (some (.int r.1)) (sh, r.2))  {l0 : Nat} {l1 : Int32} {t0 : Int32} {d : Dt} (hf : f_X12_round_66 N sh l0 l1 t0 d = some r) : Z E yX12_round cX12_round 4 (some .int) 7 (sh, d) 66 [(0, .ref l0), (1, .int l1)] [.int t0] := by
  unfold f_X12_round_66 at hf
  refine z_istore_n [(2, .int t0), (0, .ref l0), (1, .int l1)] dX12_round_66 rfl (by decide) rfl ?_
  refine z_iload_n 0 dX12_round_67 rfl rfl ?_
  refine z_if_eq 77 hf dX12_round_68 (by decide) (fun hf => ?_) (fun hf => ?_)
  · refine z_aload_n 1 dX12_round_77 rfl rfl ?_
    obtain ⟨v11, ev11, hf⟩ := ob hf
    refine z_cVv (ci := 12) (T := TX12) (N := 32) (As := []) (rest := []) (zm_X12_keeps ev11).2 (zm_X12_keeps ev11).1 (by decide) rfl (Or.inl rfl) mw_11_23 mw_12_0 mw_12_1 mw_1_5 mw_12_2 yk_X12_keeps (by decide) (by decide) rfl (Nat.le_of_ble_eq_true rfl) rfl dX12_round_78 ?_
    refine z_aload_n 1 dX12_round_81 rfl rfl ?_
    refine z_gP (ci := 12) (k := 0) (C := RX12) (T := TX12) (N := 32) rfl inlX12 (by decide) mw_6_19 (fun _ _ _ _ h9 => h9) hf (by decide) rfl dX12_round_82  (fun v12 hf => ?_)
    refine z_iconst 4 4 dX12_round_85 (by decide) ?_
    refine z_aload_n 1 dX12_round_86 rfl rfl ?_
    refine z_gI (ci := 12) (k := 24) (C := RX12) (T := TX12) (N := 32) rfl inlX12 (by decide) mw_48_20 (fun _ _ _ _ h9 => h9) hf (by decide) rfl dX12_round_87  (fun v13 hf => ?_)
    refine z_sI hf dX12_round_90  (fun d14 hf => ?_)
    refine z_aload_n 1 dX12_round_91 rfl rfl ?_
    refine z_gP (ci := 12) (k := 0) (C := RX12) (T := TX12) (N := 32) rfl inlX12 (by decide) mw_6_19 (fun _ _ _ _ h9 => h9) hf (by decide) rfl dX12_round_92  (fun v15 hf => ?_)
    refine z_iconst 5 5 dX12_round_95 (by decide) ?_
    refine z_iload_n 2 dX12_round_96 rfl rfl ?_
    refine z_if_eq 104 hf dX12_round_97 (by decide) (fun hf => ?_) (fun hf => ?_)
    · refine z_iconst 1 1 dX12_round_104 (by decide) ?_
      refine z_lv [(0, .ref l0)] [1] rfl ?_
      exact zb_X12_round_105 hE hf
    · refine z_iconst 2 2 dX12_round_100 (by decide) ?_
      refine z_goto 105 dX12_round_101 (by decide) ?_
      refine z_lv [(0, .ref l0)] [1] rfl ?_
      exact zb_X12_round_105 hE hf
  · refine z_aload_n 1 dX12_round_71 rfl rfl ?_
    refine z_iload_n 0 dX12_round_72 rfl rfl ?_
    obtain ⟨v16, ev16, hf⟩ := ob hf
    refine z_cVi (ci := 12) (T := TX12) (N := 32) (As := [.int t0]) (rest := []) (zm_X12_refuses ev16).2 (zm_X12_refuses ev16).1 (by decide) rfl (Or.inl rfl) mw_11_14 mw_11_15 mw_11_16 mw_1_5 mw_11_17 yk_X12_refuses (by decide) (by decide) rfl (Nat.le_of_ble_eq_true rfl) rfl dX12_round_73 ?_
    cases hf
    exact z_ireturn hE rfl dX12_round_76
set_option maxRecDepth 20000 in
theorem zb_X12_round_46 {N : Nat} {sh : Sh} {r : Int32 × Dt} {E : EV} (hE : TG E (some (.int r.1)) (sh, r.2))  {l0 : Nat} {d : Dt} (hf : f_X12_round_46 N sh l0 d = some r) : Z E yX12_round cX12_round 4 (some .int) 7 (sh, d) 46 [(0, .ref l0)] [] := by
  unfold f_X12_round_46 at hf
  refine z_aload_n 0 dX12_round_46 rfl rfl ?_
  obtain ⟨v8, ev8, hf⟩ := ob hf
  refine z_cVi (ci := 12) (T := TX12) (N := 32) (As := []) (rest := []) (zm_X12_isOneWay ev8).2 (zm_X12_isOneWay ev8).1 (by decide) rfl (Or.inl rfl) mw_42_8 mw_42_9 mw_42_10 mw_1_5 mw_42_11 yk_X12_isOneWay (by decide) (by decide) rfl (Nat.le_of_ble_eq_true rfl) rfl dX12_round_47 ?_
  refine z_istore_n [(1, .int v8), (0, .ref l0)] dX12_round_50 rfl (by decide) rfl ?_
  refine z_iload_n 0 dX12_round_51 rfl rfl ?_
  refine z_if_eq 62 hf dX12_round_52 (by decide) (fun hf => ?_) (fun hf => ?_)
  · refine z_aload_n 1 dX12_round_62 rfl rfl ?_
    obtain ⟨v9, ev9, hf⟩ := ob hf
    refine z_cVi (ci := 12) (T := TX12) (N := 32) (As := []) (rest := []) (zm_X12_roundByPairs ev9).2 (zm_X12_roundByPairs ev9).1 (by decide) rfl (Or.inl rfl) mw_49_9 mw_49_10 mw_49_11 mw_1_5 mw_49_12 yk_X12_roundByPairs (by decide) (by decide) rfl (Nat.le_of_ble_eq_true rfl) rfl dX12_round_63 ?_
    refine z_lv [(0, .ref l0), (1, .int v8)] [1, 0] rfl ?_
    exact zb_X12_round_66 hE hf
  · refine z_aload_n 1 dX12_round_55 rfl rfl ?_
    obtain ⟨v10, ev10, hf⟩ := ob hf
    refine z_cVi (ci := 12) (T := TX12) (N := 32) (As := []) (rest := []) (zm_X12_roundByNearest ev10).2 (zm_X12_roundByNearest ev10).1 (by decide) rfl (Or.inl rfl) mw_48_21 mw_48_22 mw_48_23 mw_1_5 mw_49_0 yk_X12_roundByNearest (by decide) (by decide) rfl (Nat.le_of_ble_eq_true rfl) rfl dX12_round_56 ?_
    refine z_goto 66 dX12_round_59 (by decide) ?_
    refine z_lv [(0, .ref l0), (1, .int v8)] [1, 0] rfl ?_
    exact zb_X12_round_66 hE hf
set_option maxRecDepth 20000 in
theorem zg_X12_round_26 {N : Nat} {sh : Sh} {r : Int32 × Dt} {k26 : Nat → Int32 → Dt → Option (Int32 × Dt)} {E : EV} (hE : TG E (some (.int r.1)) (sh, r.2))  (hk26 : ∀ (l0 : Nat) (l1 : Int32) (d : Dt), k26 l0 l1 d = some r → Z E yX12_round cX12_round 4 (some .int) 7 (sh, d) 26 [(0, .ref l0), (1, .int l1)] []) {l0 : Nat} {l1 : Int32} {d : Dt} (hf : g_X12_round_26 N sh k26 l0 l1 d = some r) : Z E yX12_round cX12_round 4 (some .int) 7 (sh, d) 26 [(0, .ref l0), (1, .int l1)] [] := by
  unfold g_X12_round_26 at hf
  refine z_iload_n 1 dX12_round_26 rfl rfl ?_
  refine z_sipush 150 150 dX12_round_27 (by decide) ?_
  refine z_icmp_ge 46 hf dX12_round_30 (by decide) (fun hf => ?_) (fun hf => ?_)
  · refine z_lv [(0, .ref l0)] [0] rfl ?_
    exact zb_X12_round_46 hE hf
  · refine z_aload_n 0 dX12_round_33 rfl rfl ?_
    refine z_gP (ci := 12) (k := 28) (C := RX12) (T := TX12) (N := 32) rfl inlX12 (by decide) mw_7_13 (fun _ _ _ _ h9 => h9) hf (by decide) rfl dX12_round_34  (fun v6 hf => ?_)
    refine z_iload_n 1 dX12_round_37 rfl rfl ?_
    refine z_iconst 0 0 dX12_round_38 (by decide) ?_
    refine z_sI hf dX12_round_39  (fun d7 hf => ?_)
    refine z_iinc [(1, .int (l1 + 1)), (0, .ref l0)] 1 (l1 + 1) dX12_round_40 rfl rfl (by decide) rfl ?_
    refine z_goto 26 dX12_round_43 (by decide) ?_
    refine z_lv [(0, .ref l0), (1, .int (l1 + 1))] [1, 0] rfl ?_
    exact hk26 _ _ _ hf
set_option maxRecDepth 20000 in
theorem zb_X12_round_26 {N : Nat} {sh : Sh} {r : Int32 × Dt} {E : EV} (hE : TG E (some (.int r.1)) (sh, r.2))  : ∀ (n : Nat) (l0 : Nat) (l1 : Int32) (d : Dt), f_X12_round_26 N sh n l0 l1 d = some r → Z E yX12_round cX12_round 4 (some .int) 7 (sh, d) 26 [(0, .ref l0), (1, .int l1)] [] := by
  intro n
  induction n with
  | zero => intro l0 l1 d hf; cases hf
  | succ n ih => intro l0 l1 d hf; exact zg_X12_round_26 hE ih hf
set_option maxRecDepth 20000 in
theorem zm_X12_round {N : Nat} {sh : Sh} {d : Dt} {l0 : Nat} {r : Int32 × Dt} (hf : f_X12_round N sh l0 d = some r) : isO sh l0 12 ∧ ∀ (l : Launch) (G : GG), Mt l G yX12_round cX12_round 4 (some .int) 7 [.ref l0] (sh, d) (some (.int r.1)) (sh, r.2) := by
  have hf0 := hf
  unfold f_X12_round at hf
  refine ite_d hf (fun hO hf => ?_) (fun _ hf => ?_)
  · refine ⟨hO, fun l G => mt_of (Or.inl (by decide)) (Nat.le_of_ble_eq_true rfl) Le.rf (fun E hE => ?_)⟩
    show Z E yX12_round cX12_round 4 (some .int) 7 (sh, d) 0 [(0, .ref l0)] []
    refine z_aload_n 0 dX12_round_0 rfl rfl ?_
    obtain ⟨v1, ev1, hf⟩ := ob hf
    refine z_cVv (ci := 12) (T := TX12) (N := 32) (As := []) (rest := []) (zm_X12_reckon ev1).2 (zm_X12_reckon ev1).1 (by decide) rfl (Or.inl rfl) mw_17_20 mw_17_21 mw_17_22 mw_1_5 mw_17_23 yk_X12_reckon (by decide) (by decide) rfl (Nat.le_of_ble_eq_true rfl) rfl dX12_round_1 ?_
    refine z_aload_n 0 dX12_round_4 rfl rfl ?_
    refine z_iconst 0 0 dX12_round_5 (by decide) ?_
    refine z_pI (ci := 12) (k := 19) (C := RX12) (T := TX12) (N := 32) rfl inlX12 (by decide) mw_48_17 (fun _ _ _ _ h9 => h9) tyX12 tyX12_ok nmX12 rfl hf (Or.inl (by decide)) rfl rfl rfl dX12_round_6  (fun d2 hf => ?_)
    refine z_aload_n 0 dX12_round_9 rfl rfl ?_
    refine z_iconst 0 0 dX12_round_10 (by decide) ?_
    refine z_pI (ci := 12) (k := 20) (C := RX12) (T := TX12) (N := 32) rfl inlX12 (by decide) mw_48_18 (fun _ _ _ _ h9 => h9) tyX12 tyX12_ok nmX12 rfl hf (Or.inl (by decide)) rfl rfl rfl dX12_round_11  (fun d3 hf => ?_)
    refine z_aload_n 0 dX12_round_14 rfl rfl ?_
    refine z_iconst 0 0 dX12_round_15 (by decide) ?_
    refine z_pI (ci := 12) (k := 21) (C := RX12) (T := TX12) (N := 32) rfl inlX12 (by decide) mw_48_19 (fun _ _ _ _ h9 => h9) tyX12 tyX12_ok nmX12 rfl hf (Or.inl (by decide)) rfl rfl rfl dX12_round_16  (fun d4 hf => ?_)
    refine z_aload_n 0 dX12_round_19 rfl rfl ?_
    refine z_iconst 0 0 dX12_round_20 (by decide) ?_
    refine z_pI (ci := 12) (k := 24) (C := RX12) (T := TX12) (N := 32) rfl inlX12 (by decide) mw_48_20 (fun _ _ _ _ h9 => h9) tyX12 tyX12_ok nmX12 rfl hf (Or.inl (by decide)) rfl rfl rfl dX12_round_21  (fun d5 hf => ?_)
    refine z_iconst 0 0 dX12_round_24 (by decide) ?_
    refine z_istore_n [(1, .int (0 : Int32)), (0, .ref l0)] dX12_round_25 rfl (by decide) rfl ?_
    refine z_lv [(0, .ref l0), (1, .int (0 : Int32))] [1, 0] rfl ?_
    exact zb_X12_round_26 hE N _ _ _ hf
  · cases hf
set_option maxRecDepth 20000 in
theorem zb_X12_row_15 {N : Nat} {sh : Sh} {r : Int32 × Dt} {E : EV} (hE : TG E (some (.int r.1)) (sh, r.2))  {l0 : Nat} {d : Dt} (hf : f_X12_row_15 N sh l0 d = some r) : Z E yX12_row cX12_row 4 (some .int) 3 (sh, d) 15 [(0, .ref l0)] [] := by
  unfold f_X12_row_15 at hf
  refine z_aload_n 0 dX12_row_15 rfl rfl ?_
  refine z_bipush (-2) (-2) dX12_row_16 (by decide) ?_
  obtain ⟨v7, ev7, hf⟩ := ob hf
  refine z_cVi (ci := 12) (T := TX12) (N := 32) (As := [.int (-2 : Int32)]) (rest := []) (zm_X12_refuses ev7).2 (zm_X12_refuses ev7).1 (by decide) rfl (Or.inl rfl) mw_11_14 mw_11_15 mw_11_16 mw_1_5 mw_11_17 yk_X12_refuses (by decide) (by decide) rfl (Nat.le_of_ble_eq_true rfl) rfl dX12_row_18 ?_
  cases hf
  exact z_ireturn hE rfl dX12_row_21
set_option maxRecDepth 20000 in
theorem zb_X12_row_95 {N : Nat} {sh : Sh} {r : Int32 × Dt} {E : EV} (hE : TG E (some (.int r.1)) (sh, r.2))  {l0 : Nat} {d : Dt} (hf : f_X12_row_95 N sh l0 d = some r) : Z E yX12_row cX12_row 4 (some .int) 3 (sh, d) 95 [(0, .ref l0)] [] := by
  unfold f_X12_row_95 at hf
  refine z_aload_n 0 dX12_row_95 rfl rfl ?_
  refine z_iconst 1 1 dX12_row_96 (by decide) ?_
  obtain ⟨v12, ev12, hf⟩ := ob hf
  refine z_cVi (ci := 12) (T := TX12) (N := 32) (As := [.int (1 : Int32)]) (rest := []) (zm_X12_says ev12).2 (zm_X12_says ev12).1 (by decide) rfl (Or.inl rfl) mw_12_4 mw_12_5 mw_12_6 mw_1_5 mw_12_7 yk_X12_says (by decide) (by decide) rfl (Nat.le_of_ble_eq_true rfl) rfl dX12_row_97 ?_
  cases hf
  exact z_ireturn hE rfl dX12_row_100
set_option maxRecDepth 20000 in
theorem zg_X12_row_56 {N : Nat} {sh : Sh} {r : Int32 × Dt} {k56 : Nat → Int32 → Int32 → Int32 → Dt → Option (Int32 × Dt)} {E : EV} (hE : TG E (some (.int r.1)) (sh, r.2))  (hk56 : ∀ (l0 : Nat) (l1 : Int32) (l2 : Int32) (l3 : Int32) (d : Dt), k56 l0 l1 l2 l3 d = some r → Z E yX12_row cX12_row 4 (some .int) 3 (sh, d) 56 [(0, .ref l0), (1, .int l1), (2, .int l2), (3, .int l3)] []) {l0 : Nat} {l1 : Int32} {l2 : Int32} {l3 : Int32} {d : Dt} (hf : g_X12_row_56 N sh k56 l0 l1 l2 l3 d = some r) : Z E yX12_row cX12_row 4 (some .int) 3 (sh, d) 56 [(0, .ref l0), (1, .int l1), (2, .int l2), (3, .int l3)] [] := by
  unfold g_X12_row_56 at hf
  refine z_iload_n 3 dX12_row_56 rfl rfl ?_
  refine z_sipush 200 200 dX12_row_57 (by decide) ?_
  refine z_iload_n 1 dX12_row_60 rfl rfl ?_
  refine z_imul dX12_row_61 ?_
  refine z_iload_n 2 dX12_row_62 rfl rfl ?_
  refine z_iadd dX12_row_63 ?_
  refine z_icmp_ge 95 hf dX12_row_64 (by decide) (fun hf => ?_) (fun hf => ?_)
  · refine z_lv [(0, .ref l0)] [0] rfl ?_
    exact zb_X12_row_95 hE hf
  · refine z_aload_n 0 dX12_row_67 rfl rfl ?_
    refine z_gP (ci := 12) (k := 0) (C := RX12) (T := TX12) (N := 32) rfl inlX12 (by decide) mw_6_19 (fun _ _ _ _ h9 => h9) hf (by decide) rfl dX12_row_68  (fun v8 hf => ?_)
    refine z_sipush 1426 1426 dX12_row_71 (by decide) ?_
    refine z_iload_n 3 dX12_row_74 rfl rfl ?_
    refine z_iadd dX12_row_75 ?_
    refine z_iconst 0 0 dX12_row_76 (by decide) ?_
    refine z_sI hf dX12_row_77  (fun d9 hf => ?_)
    refine z_aload_n 0 dX12_row_78 rfl rfl ?_
    refine z_gP (ci := 12) (k := 0) (C := RX12) (T := TX12) (N := 32) rfl inlX12 (by decide) mw_6_19 (fun _ _ _ _ h9 => h9) hf (by decide) rfl dX12_row_79  (fun v10 hf => ?_)
    refine z_sipush 5426 5426 dX12_row_82 (by decide) ?_
    refine z_iload_n 3 dX12_row_85 rfl rfl ?_
    refine z_iadd dX12_row_86 ?_
    refine z_iconst 0 0 dX12_row_87 (by decide) ?_
    refine z_sI hf dX12_row_88  (fun d11 hf => ?_)
    refine z_iinc [(3, .int (l3 + 1)), (0, .ref l0), (1, .int l1), (2, .int l2)] 3 (l3 + 1) dX12_row_89 rfl rfl (by decide) rfl ?_
    refine z_goto 56 dX12_row_92 (by decide) ?_
    refine z_lv [(0, .ref l0), (1, .int l1), (2, .int l2), (3, .int (l3 + 1))] [1, 2, 3, 0] rfl ?_
    exact hk56 _ _ _ _ _ hf
set_option maxRecDepth 20000 in
theorem zb_X12_row_56 {N : Nat} {sh : Sh} {r : Int32 × Dt} {E : EV} (hE : TG E (some (.int r.1)) (sh, r.2))  : ∀ (n : Nat) (l0 : Nat) (l1 : Int32) (l2 : Int32) (l3 : Int32) (d : Dt), f_X12_row_56 N sh n l0 l1 l2 l3 d = some r → Z E yX12_row cX12_row 4 (some .int) 3 (sh, d) 56 [(0, .ref l0), (1, .int l1), (2, .int l2), (3, .int l3)] [] := by
  intro n
  induction n with
  | zero => intro l0 l1 l2 l3 d hf; cases hf
  | succ n ih => intro l0 l1 l2 l3 d hf; exact zg_X12_row_56 hE ih hf
set_option maxRecDepth 20000 in
theorem zm_X12_row {N : Nat} {sh : Sh} {d : Dt} {l0 : Nat} {l1 : Int32} {l2 : Int32} {r : Int32 × Dt} (hf : f_X12_row N sh l0 l1 l2 d = some r) : isO sh l0 12 ∧ ∀ (l : Launch) (G : GG), Mt l G yX12_row cX12_row 4 (some .int) 3 [.ref l0, .int l1, .int l2] (sh, d) (some (.int r.1)) (sh, r.2) := by
  have hf0 := hf
  unfold f_X12_row at hf
  refine ite_d hf (fun hO hf => ?_) (fun _ hf => ?_)
  · refine ⟨hO, fun l G => mt_of (Or.inl (by decide)) (Nat.le_of_ble_eq_true rfl) Le.rf (fun E hE => ?_)⟩
    show Z E yX12_row cX12_row 4 (some .int) 3 (sh, d) 0 [(0, .ref l0), (1, .int l1), (2, .int l2)] []
    refine z_aload_n 0 dX12_row_0 rfl rfl ?_
    refine z_iload_n 1 dX12_row_1 rfl rfl ?_
    obtain ⟨v1, ev1, hf⟩ := ob hf
    refine z_cVi (ci := 12) (T := TX12) (N := 32) (As := [.int l1]) (rest := []) (zm_X12_isGauge ev1).2 (zm_X12_isGauge ev1).1 (by decide) rfl (Or.inl rfl) mw_21_9 mw_21_10 mw_21_11 mw_1_5 mw_21_12 yk_X12_isGauge (by decide) (by decide) rfl (Nat.le_of_ble_eq_true rfl) rfl dX12_row_2 ?_
    refine z_if_eq 15 hf dX12_row_5 (by decide) (fun hf => ?_) (fun hf => ?_)
    · refine z_lv [(0, .ref l0)] [0] rfl ?_
      exact zb_X12_row_15 hE hf
    · refine z_iload_n 2 dX12_row_8 rfl rfl ?_
      refine z_sipush 200 200 dX12_row_9 (by decide) ?_
      refine z_icmp_le 22 hf dX12_row_12 (by decide) (fun hf => ?_) (fun hf => ?_)
      · refine z_iload_n 2 dX12_row_22 rfl rfl ?_
        refine z_if_ge 33 hf dX12_row_23 (by decide) (fun hf => ?_) (fun hf => ?_)
        · refine z_aload_n 0 dX12_row_33 rfl rfl ?_
          obtain ⟨v2, ev2, hf⟩ := ob hf
          refine z_cVv (ci := 12) (T := TX12) (N := 32) (As := []) (rest := []) (zm_X12_keeps ev2).2 (zm_X12_keeps ev2).1 (by decide) rfl (Or.inl rfl) mw_11_23 mw_12_0 mw_12_1 mw_1_5 mw_12_2 yk_X12_keeps (by decide) (by decide) rfl (Nat.le_of_ble_eq_true rfl) rfl dX12_row_34 ?_
          refine z_aload_n 0 dX12_row_37 rfl rfl ?_
          refine z_gP (ci := 12) (k := 0) (C := RX12) (T := TX12) (N := 32) rfl inlX12 (by decide) mw_6_19 (fun _ _ _ _ h9 => h9) hf (by decide) rfl dX12_row_38  (fun v3 hf => ?_)
          refine z_aload_n 0 dX12_row_41 rfl rfl ?_
          refine z_iload_n 1 dX12_row_42 rfl rfl ?_
          obtain ⟨v4, ev4, hf⟩ := ob hf
          refine z_cVi (ci := 12) (T := TX12) (N := 32) (As := [.int l1]) (rest := [.ref v3]) (zm_X12_ga ev4).2 (zm_X12_ga ev4).1 (by decide) rfl (Or.inl rfl) mw_20_8 mw_20_9 mw_20_10 mw_1_5 mw_20_11 yk_X12_ga (by decide) (by decide) rfl (Nat.le_of_ble_eq_true rfl) rfl dX12_row_43 ?_
          refine z_iconst 2 2 dX12_row_46 (by decide) ?_
          refine z_iadd dX12_row_47 ?_
          refine z_iload_n 2 dX12_row_48 rfl rfl ?_
          refine z_sI hf dX12_row_49  (fun d5 hf => ?_)
          refine z_sipush 200 200 dX12_row_50 (by decide) ?_
          refine z_iload_n 1 dX12_row_53 rfl rfl ?_
          refine z_imul dX12_row_54 ?_
          refine z_istore_n [(3, .int ((200 : Int32) * l1)), (0, .ref l0), (1, .int l1), (2, .int l2)] dX12_row_55 rfl (by decide) rfl ?_
          refine z_lv [(0, .ref l0), (1, .int l1), (2, .int l2), (3, .int ((200 : Int32) * l1))] [1, 2, 3, 0] rfl ?_
          exact zb_X12_row_56 hE N _ _ _ _ _ hf
        · refine z_aload_n 0 dX12_row_26 rfl rfl ?_
          refine z_bipush (-7) (-7) dX12_row_27 (by decide) ?_
          obtain ⟨v6, ev6, hf⟩ := ob hf
          refine z_cVi (ci := 12) (T := TX12) (N := 32) (As := [.int (-7 : Int32)]) (rest := []) (zm_X12_refuses ev6).2 (zm_X12_refuses ev6).1 (by decide) rfl (Or.inl rfl) mw_11_14 mw_11_15 mw_11_16 mw_1_5 mw_11_17 yk_X12_refuses (by decide) (by decide) rfl (Nat.le_of_ble_eq_true rfl) rfl dX12_row_29 ?_
          cases hf
          exact z_ireturn hE rfl dX12_row_32
      · refine z_lv [(0, .ref l0)] [0] rfl ?_
        exact zb_X12_row_15 hE hf
  · cases hf
set_option maxRecDepth 20000 in
theorem zb_X12_salt_16 {N : Nat} {sh : Sh} {r : Int32 × Dt} {E : EV} (hE : TG E (some (.int r.1)) (sh, r.2))  {l0 : Nat} {d : Dt} (hf : f_X12_salt_16 N sh l0 d = some r) : Z E yX12_salt cX12_salt 3 (some .int) 3 (sh, d) 16 [(0, .ref l0)] [] := by
  unfold f_X12_salt_16 at hf
  refine z_aload_n 0 dX12_salt_16 rfl rfl ?_
  refine z_bipush (-2) (-2) dX12_salt_17 (by decide) ?_
  obtain ⟨v15, ev15, hf⟩ := ob hf
  refine z_cVi (ci := 12) (T := TX12) (N := 32) (As := [.int (-2 : Int32)]) (rest := []) (zm_X12_refuses ev15).2 (zm_X12_refuses ev15).1 (by decide) rfl (Or.inl rfl) mw_11_14 mw_11_15 mw_11_16 mw_1_5 mw_11_17 yk_X12_refuses (by decide) (by decide) rfl (Nat.le_of_ble_eq_true rfl) rfl dX12_salt_19 ?_
  cases hf
  exact z_ireturn hE rfl dX12_salt_22
set_option maxRecDepth 20000 in
theorem zm_X12_salt {N : Nat} {sh : Sh} {d : Dt} {l0 : Nat} {l1 : Int32} {l2 : Int32} {r : Int32 × Dt} (hf : f_X12_salt N sh l0 l1 l2 d = some r) : isO sh l0 12 ∧ ∀ (l : Launch) (G : GG), Mt l G yX12_salt cX12_salt 3 (some .int) 3 [.ref l0, .int l1, .int l2] (sh, d) (some (.int r.1)) (sh, r.2) := by
  have hf0 := hf
  unfold f_X12_salt at hf
  refine ite_d hf (fun hO hf => ?_) (fun _ hf => ?_)
  · refine ⟨hO, fun l G => mt_of (Or.inl (by decide)) (Nat.le_of_ble_eq_true rfl) Le.rf (fun E hE => ?_)⟩
    show Z E yX12_salt cX12_salt 3 (some .int) 3 (sh, d) 0 [(0, .ref l0), (1, .int l1), (2, .int l2)] []
    refine z_aload_n 0 dX12_salt_0 rfl rfl ?_
    refine z_iload_n 1 dX12_salt_1 rfl rfl ?_
    obtain ⟨v1, ev1, hf⟩ := ob hf
    refine z_cVi (ci := 12) (T := TX12) (N := 32) (As := [.int l1]) (rest := []) (zm_X12_isPlough ev1).2 (zm_X12_isPlough ev1).1 (by decide) rfl (Or.inl rfl) mw_32_23 mw_33_0 mw_33_1 mw_1_5 mw_33_2 yk_X12_isPlough (by decide) (by decide) rfl (Nat.le_of_ble_eq_true rfl) rfl dX12_salt_2 ?_
    refine z_if_eq 16 hf dX12_salt_5 (by decide) (fun hf => ?_) (fun hf => ?_)
    · refine z_lv [(0, .ref l0)] [0] rfl ?_
      exact zb_X12_salt_16 hE hf
    · refine z_aload_n 0 dX12_salt_8 rfl rfl ?_
      refine z_iload_n 2 dX12_salt_9 rfl rfl ?_
      obtain ⟨v2, ev2, hf⟩ := ob hf
      refine z_cVi (ci := 12) (T := TX12) (N := 32) (As := [.int l2]) (rest := []) (zm_X12_isStreet ev2).2 (zm_X12_isStreet ev2).1 (by decide) rfl (Or.inl rfl) mw_14_11 mw_14_12 mw_14_13 mw_1_5 mw_14_14 yk_X12_isStreet (by decide) (by decide) rfl (Nat.le_of_ble_eq_true rfl) rfl dX12_salt_10 ?_
      refine z_if_ne 23 hf dX12_salt_13 (by decide) (fun hf => ?_) (fun hf => ?_)
      · refine z_aload_n 0 dX12_salt_23 rfl rfl ?_
        refine z_gP (ci := 12) (k := 0) (C := RX12) (T := TX12) (N := 32) rfl inlX12 (by decide) mw_6_19 (fun _ _ _ _ h9 => h9) hf (by decide) rfl dX12_salt_24  (fun v3 hf => ?_)
        refine z_aload_n 0 dX12_salt_27 rfl rfl ?_
        refine z_iload_n 1 dX12_salt_28 rfl rfl ?_
        obtain ⟨v4, ev4, hf⟩ := ob hf
        refine z_cVi (ci := 12) (T := TX12) (N := 32) (As := [.int l1]) (rest := [.ref v3]) (zm_X12_pl ev4).2 (zm_X12_pl ev4).1 (by decide) rfl (Or.inl rfl) mw_31_6 mw_31_7 mw_31_8 mw_1_5 mw_31_9 yk_X12_pl (by decide) (by decide) rfl (Nat.le_of_ble_eq_true rfl) rfl dX12_salt_29 ?_
        refine z_iconst 2 2 dX12_salt_32 (by decide) ?_
        refine z_iadd dX12_salt_33 ?_
        refine z_aI hf dX12_salt_34  (fun v5 hf => ?_)
        refine z_iconst 1 1 dX12_salt_35 (by decide) ?_
        refine z_icmp_ne 46 hf dX12_salt_36 (by decide) (fun hf => ?_) (fun hf => ?_)
        · refine z_aload_n 0 dX12_salt_46 rfl rfl ?_
          refine z_iload_n 1 dX12_salt_47 rfl rfl ?_
          obtain ⟨v6, ev6, hf⟩ := ob hf
          refine z_cVi (ci := 12) (T := TX12) (N := 32) (As := [.int l1]) (rest := []) (zm_X12_kindOf ev6).2 (zm_X12_kindOf ev6).1 (by decide) rfl (Or.inl rfl) mw_37_9 mw_37_10 mw_37_11 mw_1_5 mw_37_12 yk_X12_kindOf (by decide) (by decide) rfl (Nat.le_of_ble_eq_true rfl) rfl dX12_salt_48 ?_
          refine z_iconst 2 2 dX12_salt_51 (by decide) ?_
          refine z_icmp_eq 62 hf dX12_salt_52 (by decide) (fun hf => ?_) (fun hf => ?_)
          · refine z_aload_n 0 dX12_salt_62 rfl rfl ?_
            obtain ⟨v7, ev7, hf⟩ := ob hf
            refine z_cVv (ci := 12) (T := TX12) (N := 32) (As := []) (rest := []) (zm_X12_keeps ev7).2 (zm_X12_keeps ev7).1 (by decide) rfl (Or.inl rfl) mw_11_23 mw_12_0 mw_12_1 mw_1_5 mw_12_2 yk_X12_keeps (by decide) (by decide) rfl (Nat.le_of_ble_eq_true rfl) rfl dX12_salt_63 ?_
            refine z_aload_n 0 dX12_salt_66 rfl rfl ?_
            refine z_iload_n 2 dX12_salt_67 rfl rfl ?_
            refine z_bipush 50 50 dX12_salt_68 (by decide) ?_
            obtain ⟨v8, ev8, hf⟩ := ob hf
            refine z_cVv (ci := 12) (T := TX12) (N := 32) (As := [.int l2, .int (50 : Int32)]) (rest := []) (zm_X12_thins ev8).2 (zm_X12_thins ev8).1 (by decide) rfl (Or.inl rfl) mw_29_8 mw_29_9 mw_29_10 mw_1_5 mw_29_11 yk_X12_thins (by decide) (by decide) rfl (Nat.le_of_ble_eq_true rfl) rfl dX12_salt_70 ?_
            refine z_aload_n 0 dX12_salt_73 rfl rfl ?_
            refine z_aload_n 0 dX12_salt_74 rfl rfl ?_
            refine z_gP (ci := 12) (k := 0) (C := RX12) (T := TX12) (N := 32) rfl inlX12 (by decide) mw_6_19 (fun _ _ _ _ h9 => h9) hf (by decide) rfl dX12_salt_75  (fun v9 hf => ?_)
            refine z_aload_n 0 dX12_salt_78 rfl rfl ?_
            refine z_iload_n 2 dX12_salt_79 rfl rfl ?_
            obtain ⟨v10, ev10, hf⟩ := ob hf
            refine z_cVi (ci := 12) (T := TX12) (N := 32) (As := [.int l2]) (rest := [.ref v9, .ref l0]) (zm_X12_st ev10).2 (zm_X12_st ev10).1 (by decide) rfl (Or.inl rfl) mw_13_10 mw_13_11 mw_13_12 mw_1_5 mw_13_13 yk_X12_st (by decide) (by decide) rfl (Nat.le_of_ble_eq_true rfl) rfl dX12_salt_80 ?_
            refine z_iconst 0 0 dX12_salt_83 (by decide) ?_
            refine z_iadd dX12_salt_84 ?_
            refine z_aI hf dX12_salt_85  (fun v11 hf => ?_)
            obtain ⟨v12, ev12, hf⟩ := ob hf
            refine z_cVi (ci := 12) (T := TX12) (N := 32) (As := [.int v11]) (rest := []) (zm_X12_says ev12).2 (zm_X12_says ev12).1 (by decide) rfl (Or.inl rfl) mw_12_4 mw_12_5 mw_12_6 mw_1_5 mw_12_7 yk_X12_says (by decide) (by decide) rfl (Nat.le_of_ble_eq_true rfl) rfl dX12_salt_86 ?_
            cases hf
            exact z_ireturn hE rfl dX12_salt_89
          · refine z_aload_n 0 dX12_salt_55 rfl rfl ?_
            refine z_bipush (-6) (-6) dX12_salt_56 (by decide) ?_
            obtain ⟨v13, ev13, hf⟩ := ob hf
            refine z_cVi (ci := 12) (T := TX12) (N := 32) (As := [.int (-6 : Int32)]) (rest := []) (zm_X12_refuses ev13).2 (zm_X12_refuses ev13).1 (by decide) rfl (Or.inl rfl) mw_11_14 mw_11_15 mw_11_16 mw_1_5 mw_11_17 yk_X12_refuses (by decide) (by decide) rfl (Nat.le_of_ble_eq_true rfl) rfl dX12_salt_58 ?_
            cases hf
            exact z_ireturn hE rfl dX12_salt_61
        · refine z_aload_n 0 dX12_salt_39 rfl rfl ?_
          refine z_bipush (-4) (-4) dX12_salt_40 (by decide) ?_
          obtain ⟨v14, ev14, hf⟩ := ob hf
          refine z_cVi (ci := 12) (T := TX12) (N := 32) (As := [.int (-4 : Int32)]) (rest := []) (zm_X12_refuses ev14).2 (zm_X12_refuses ev14).1 (by decide) rfl (Or.inl rfl) mw_11_14 mw_11_15 mw_11_16 mw_1_5 mw_11_17 yk_X12_refuses (by decide) (by decide) rfl (Nat.le_of_ble_eq_true rfl) rfl dX12_salt_42 ?_
          cases hf
          exact z_ireturn hE rfl dX12_salt_45
      · refine z_lv [(0, .ref l0)] [0] rfl ?_
        exact zb_X12_salt_16 hE hf
  · cases hf
set_option maxRecDepth 20000 in
theorem zm_X12_shut {N : Nat} {sh : Sh} {d : Dt} {l0 : Nat} {l1 : Int32} {l2 : Int32} {r : Int32 × Dt} (hf : f_X12_shut N sh l0 l1 l2 d = some r) : isO sh l0 12 ∧ ∀ (l : Launch) (G : GG), Mt l G yX12_shut cX12_shut 3 (some .int) 4 [.ref l0, .int l1, .int l2] (sh, d) (some (.int r.1)) (sh, r.2) := by
  have hf0 := hf
  unfold f_X12_shut at hf
  refine ite_d hf (fun hO hf => ?_) (fun _ hf => ?_)
  · refine ⟨hO, fun l G => mt_of (Or.inl (by decide)) (Nat.le_of_ble_eq_true rfl) Le.rf (fun E hE => ?_)⟩
    show Z E yX12_shut cX12_shut 3 (some .int) 4 (sh, d) 0 [(0, .ref l0), (1, .int l1), (2, .int l2)] []
    refine z_aload_n 0 dX12_shut_0 rfl rfl ?_
    refine z_iload_n 1 dX12_shut_1 rfl rfl ?_
    refine z_iconst 4 4 dX12_shut_2 (by decide) ?_
    refine z_iload_n 2 dX12_shut_3 rfl rfl ?_
    obtain ⟨v1, ev1, hf⟩ := ob hf
    refine z_cVi (ci := 12) (T := TX12) (N := 32) (As := [.int l1, .int (4 : Int32), .int l2]) (rest := []) (zm_X12_turned ev1).2 (zm_X12_turned ev1).1 (by decide) rfl (Or.inl rfl) mw_14_7 mw_14_8 mw_14_9 mw_1_5 mw_14_10 yk_X12_turned (by decide) (by decide) rfl (Nat.le_of_ble_eq_true rfl) rfl dX12_shut_4 ?_
    cases hf
    exact z_ireturn hE rfl dX12_shut_7
  · cases hf
set_option maxRecDepth 20000 in
theorem zb_X12_sides_17 {N : Nat} {sh : Sh} {r : Int32 × Dt} {E : EV} (hE : TG E (some (.int r.1)) (sh, r.2))  {l0 : Nat} {d : Dt} (hf : f_X12_sides_17 N sh l0 d = some r) : Z E yX12_sides cX12_sides 4 (some .int) 3 (sh, d) 17 [(0, .ref l0)] [] := by
  unfold f_X12_sides_17 at hf
  refine z_aload_n 0 dX12_sides_17 rfl rfl ?_
  refine z_bipush (-2) (-2) dX12_sides_18 (by decide) ?_
  obtain ⟨v14, ev14, hf⟩ := ob hf
  refine z_cVi (ci := 12) (T := TX12) (N := 32) (As := [.int (-2 : Int32)]) (rest := []) (zm_X12_refuses ev14).2 (zm_X12_refuses ev14).1 (by decide) rfl (Or.inl rfl) mw_11_14 mw_11_15 mw_11_16 mw_1_5 mw_11_17 yk_X12_refuses (by decide) (by decide) rfl (Nat.le_of_ble_eq_true rfl) rfl dX12_sides_20 ?_
  cases hf
  exact z_ireturn hE rfl dX12_sides_23
set_option maxRecDepth 20000 in
theorem zm_X12_sides {N : Nat} {sh : Sh} {d : Dt} {l0 : Nat} {l1 : Int32} {l2 : Int32} {r : Int32 × Dt} (hf : f_X12_sides N sh l0 l1 l2 d = some r) : isO sh l0 12 ∧ ∀ (l : Launch) (G : GG), Mt l G yX12_sides cX12_sides 4 (some .int) 3 [.ref l0, .int l1, .int l2] (sh, d) (some (.int r.1)) (sh, r.2) := by
  have hf0 := hf
  unfold f_X12_sides at hf
  refine ite_d hf (fun hO hf => ?_) (fun _ hf => ?_)
  · refine ⟨hO, fun l G => mt_of (Or.inl (by decide)) (Nat.le_of_ble_eq_true rfl) Le.rf (fun E hE => ?_)⟩
    show Z E yX12_sides cX12_sides 4 (some .int) 3 (sh, d) 0 [(0, .ref l0), (1, .int l1), (2, .int l2)] []
    refine z_aload_n 0 dX12_sides_0 rfl rfl ?_
    refine z_iload_n 1 dX12_sides_1 rfl rfl ?_
    obtain ⟨v1, ev1, hf⟩ := ob hf
    refine z_cVi (ci := 12) (T := TX12) (N := 32) (As := [.int l1]) (rest := []) (zm_X12_isStreet ev1).2 (zm_X12_isStreet ev1).1 (by decide) rfl (Or.inl rfl) mw_14_11 mw_14_12 mw_14_13 mw_1_5 mw_14_14 yk_X12_isStreet (by decide) (by decide) rfl (Nat.le_of_ble_eq_true rfl) rfl dX12_sides_2 ?_
    refine z_if_eq 17 hf dX12_sides_5 (by decide) (fun hf => ?_) (fun hf => ?_)
    · refine z_lv [(0, .ref l0)] [0] rfl ?_
      exact zb_X12_sides_17 hE hf
    · refine z_iload_n 2 dX12_sides_8 rfl rfl ?_
      refine z_iconst 0 0 dX12_sides_9 (by decide) ?_
      refine z_iconst 2 2 dX12_sides_10 (by decide) ?_
      obtain ⟨v2, ev2, hf⟩ := ob hf
      refine z_cTi (As := [.int l2, .int (0 : Int32), .int (2 : Int32)]) (rest := []) (zm_X12_in ev2) (Or.inl rfl) mw_11_11 mw_11_12 mw_1_5 mw_11_13 yk_X12_in (by decide) (by decide) rfl (Nat.le_of_ble_eq_true rfl) rfl dX12_sides_11 ?_
      refine z_if_ne 24 hf dX12_sides_14 (by decide) (fun hf => ?_) (fun hf => ?_)
      · refine z_aload_n 0 dX12_sides_24 rfl rfl ?_
        obtain ⟨v3, ev3, hf⟩ := ob hf
        refine z_cVv (ci := 12) (T := TX12) (N := 32) (As := []) (rest := []) (zm_X12_keeps ev3).2 (zm_X12_keeps ev3).1 (by decide) rfl (Or.inl rfl) mw_11_23 mw_12_0 mw_12_1 mw_1_5 mw_12_2 yk_X12_keeps (by decide) (by decide) rfl (Nat.le_of_ble_eq_true rfl) rfl dX12_sides_25 ?_
        refine z_aload_n 0 dX12_sides_28 rfl rfl ?_
        refine z_gP (ci := 12) (k := 0) (C := RX12) (T := TX12) (N := 32) rfl inlX12 (by decide) mw_6_19 (fun _ _ _ _ h9 => h9) hf (by decide) rfl dX12_sides_29  (fun v4 hf => ?_)
        refine z_aload_n 0 dX12_sides_32 rfl rfl ?_
        refine z_iload_n 1 dX12_sides_33 rfl rfl ?_
        obtain ⟨v5, ev5, hf⟩ := ob hf
        refine z_cVi (ci := 12) (T := TX12) (N := 32) (As := [.int l1]) (rest := [.ref v4]) (zm_X12_st ev5).2 (zm_X12_st ev5).1 (by decide) rfl (Or.inl rfl) mw_13_10 mw_13_11 mw_13_12 mw_1_5 mw_13_13 yk_X12_st (by decide) (by decide) rfl (Nat.le_of_ble_eq_true rfl) rfl dX12_sides_34 ?_
        refine z_iconst 3 3 dX12_sides_37 (by decide) ?_
        refine z_iadd dX12_sides_38 ?_
        refine z_aI hf dX12_sides_39  (fun v6 hf => ?_)
        refine z_istore_n [(3, .int v6), (0, .ref l0), (1, .int l1), (2, .int l2)] dX12_sides_40 rfl (by decide) rfl ?_
        refine z_aload_n 1 dX12_sides_41 rfl rfl ?_
        refine z_gP (ci := 12) (k := 0) (C := RX12) (T := TX12) (N := 32) rfl inlX12 (by decide) mw_6_19 (fun _ _ _ _ h9 => h9) hf (by decide) rfl dX12_sides_42  (fun v7 hf => ?_)
        refine z_aload_n 1 dX12_sides_45 rfl rfl ?_
        refine z_iload_n 2 dX12_sides_46 rfl rfl ?_
        obtain ⟨v8, ev8, hf⟩ := ob hf
        refine z_cVi (ci := 12) (T := TX12) (N := 32) (As := [.int l1]) (rest := [.ref v7]) (zm_X12_st ev8).2 (zm_X12_st ev8).1 (by decide) rfl (Or.inl rfl) mw_13_10 mw_13_11 mw_13_12 mw_1_5 mw_13_13 yk_X12_st (by decide) (by decide) rfl (Nat.le_of_ble_eq_true rfl) rfl dX12_sides_47 ?_
        refine z_iconst 3 3 dX12_sides_50 (by decide) ?_
        refine z_iadd dX12_sides_51 ?_
        refine z_iload_n 3 dX12_sides_52 rfl rfl ?_
        refine z_sI hf dX12_sides_53  (fun d9 hf => ?_)
        refine z_aload_n 1 dX12_sides_54 rfl rfl ?_
        refine z_gP (ci := 12) (k := 0) (C := RX12) (T := TX12) (N := 32) rfl inlX12 (by decide) mw_6_19 (fun _ _ _ _ h9 => h9) hf (by decide) rfl dX12_sides_55  (fun v10 hf => ?_)
        refine z_aload_n 1 dX12_sides_58 rfl rfl ?_
        refine z_iload_n 2 dX12_sides_59 rfl rfl ?_
        obtain ⟨v11, ev11, hf⟩ := ob hf
        refine z_cVi (ci := 12) (T := TX12) (N := 32) (As := [.int l1]) (rest := [.ref v10]) (zm_X12_st ev11).2 (zm_X12_st ev11).1 (by decide) rfl (Or.inl rfl) mw_13_10 mw_13_11 mw_13_12 mw_1_5 mw_13_13 yk_X12_st (by decide) (by decide) rfl (Nat.le_of_ble_eq_true rfl) rfl dX12_sides_60 ?_
        refine z_iconst 2 2 dX12_sides_63 (by decide) ?_
        refine z_iadd dX12_sides_64 ?_
        refine z_iconst 0 0 dX12_sides_65 (by decide) ?_
        refine z_sI hf dX12_sides_66  (fun d12 hf => ?_)
        refine z_aload_n 1 dX12_sides_67 rfl rfl ?_
        refine z_iload_n 0 dX12_sides_68 rfl rfl ?_
        obtain ⟨v13, ev13, hf⟩ := ob hf
        refine z_cVi (ci := 12) (T := TX12) (N := 32) (As := [.int v6]) (rest := []) (zm_X12_says ev13).2 (zm_X12_says ev13).1 (by decide) rfl (Or.inl rfl) mw_12_4 mw_12_5 mw_12_6 mw_1_5 mw_12_7 yk_X12_says (by decide) (by decide) rfl (Nat.le_of_ble_eq_true rfl) rfl dX12_sides_69 ?_
        cases hf
        exact z_ireturn hE rfl dX12_sides_72
      · refine z_lv [(0, .ref l0)] [0] rfl ?_
        exact zb_X12_sides_17 hE hf
  · cases hf
set_option maxRecDepth 20000 in
theorem zb_X12_sign_24 {N : Nat} {sh : Sh} {d : Dt} {r : Int32} {E : EV} (hE : TG E (some (.int r)) (sh, d))  {t0 : Int32} (hf : f_X12_sign_24 N sh t0 d = some r) : Z E yX12_sign cX12_sign 2 (some .int) 2 (sh, d) 24 [] [.int t0] := by
  unfold f_X12_sign_24 at hf
  cases hf
  exact z_ireturn hE rfl dX12_sign_24
set_option maxRecDepth 20000 in
theorem zm_X12_sign {N : Nat} {sh : Sh} {d : Dt} {l0 : Nat} {l1 : Int32} {r : Int32} (hf : f_X12_sign N sh l0 l1 d = some r) : isO sh l0 12 ∧ ∀ (l : Launch) (G : GG), Mt l G yX12_sign cX12_sign 2 (some .int) 2 [.ref l0, .int l1] (sh, d) (some (.int r)) (sh, d) := by
  have hf0 := hf
  unfold f_X12_sign at hf
  refine ite_d hf (fun hO hf => ?_) (fun _ hf => ?_)
  · refine ⟨hO, fun l G => mt_of (Or.inl (by decide)) (Nat.le_of_ble_eq_true rfl) Le.rf (fun E hE => ?_)⟩
    show Z E yX12_sign cX12_sign 2 (some .int) 2 (sh, d) 0 [(0, .ref l0), (1, .int l1)] []
    refine z_iload_n 1 dX12_sign_0 rfl rfl ?_
    refine z_iconst 0 0 dX12_sign_1 (by decide) ?_
    refine z_aload_n 0 dX12_sign_2 rfl rfl ?_
    refine z_gI (ci := 12) (k := 8) (C := RX12) (T := TX12) (N := 32) rfl inlX12 (by decide) mw_57_3 (fun _ _ _ _ h9 => h9) hf (by decide) rfl dX12_sign_3  (fun v1 hf => ?_)
    refine z_iconst 1 1 dX12_sign_6 (by decide) ?_
    refine z_isub dX12_sign_7 ?_
    obtain ⟨v2, ev2, hf⟩ := ob hf
    refine z_cTi (As := [.int l1, .int (0 : Int32), .int (v1 - (1 : Int32))]) (rest := []) (zm_X12_in ev2) (Or.inl rfl) mw_11_11 mw_11_12 mw_1_5 mw_11_13 yk_X12_in (by decide) (by decide) rfl (Nat.le_of_ble_eq_true rfl) rfl dX12_sign_8 ?_
    refine z_if_eq 23 hf dX12_sign_11 (by decide) (fun hf => ?_) (fun hf => ?_)
    · refine z_iconst (-1) (-1) dX12_sign_23 (by decide) ?_
      refine z_lv [] [] rfl ?_
      exact zb_X12_sign_24 hE hf
    · refine z_aload_n 0 dX12_sign_14 rfl rfl ?_
      refine z_gP (ci := 12) (k := 7) (C := RX12) (T := TX12) (N := 32) rfl inlX12 (by decide) mw_6_22 (fun _ _ _ _ h9 => h9) hf (by decide) rfl dX12_sign_15  (fun v3 hf => ?_)
      refine z_iload_n 1 dX12_sign_18 rfl rfl ?_
      refine z_aC hf dX12_sign_19  (fun v4 hf => ?_)
      refine z_goto 24 dX12_sign_20 (by decide) ?_
      refine z_lv [] [] rfl ?_
      exact zb_X12_sign_24 hE hf
  · cases hf
set_option maxRecDepth 20000 in
theorem zb_X12_snows_159 {N : Nat} {sh : Sh} {r : Int32 × Dt} {E : EV} (hE : TG E (some (.int r.1)) (sh, r.2))  {t0 : Int32} {d : Dt} (hf : f_X12_snows_159 N sh t0 d = some r) : Z E yX12_snows cX12_snows 6 (some .boolean) 4 (sh, d) 159 [] [.int t0] := by
  unfold f_X12_snows_159 at hf
  obtain ⟨v25, ev25, hg⟩ := ob hf
  obtain ⟨rfl, hbv25⟩ := o_bool_spec ev25
  cases hg
  exact z_zreturn hE rfl hbv25 dX12_snows_159
set_option maxRecDepth 20000 in
theorem zb_X12_snows_148 {N : Nat} {sh : Sh} {r : Int32 × Dt} {E : EV} (hE : TG E (some (.int r.1)) (sh, r.2))  {l3 : UInt32} {d : Dt} (hf : f_X12_snows_148 N sh l3 d = some r) : Z E yX12_snows cX12_snows 6 (some .boolean) 4 (sh, d) 148 [(3, .float l3)] [] := by
  unfold f_X12_snows_148 at hf
  refine z_fload_n 0 dX12_snows_148 rfl rfl ?_
  refine z_fconst0 dX12_snows_149 ?_
  refine z_fcmp dX12_snows_150 ?_
  refine z_if_le 158 hf dX12_snows_151 (by decide) (fun hf => ?_) (fun hf => ?_)
  · refine z_iconst 0 0 dX12_snows_158 (by decide) ?_
    refine z_lv [] [] rfl ?_
    exact zb_X12_snows_159 hE hf
  · refine z_iconst 1 1 dX12_snows_154 (by decide) ?_
    refine z_goto 159 dX12_snows_155 (by decide) ?_
    refine z_lv [] [] rfl ?_
    exact zb_X12_snows_159 hE hf
set_option maxRecDepth 20000 in
theorem zb_X12_snows_107 {N : Nat} {sh : Sh} {r : Int32 × Dt} {E : EV} (hE : TG E (some (.int r.1)) (sh, r.2))  {l0 : Nat} {l2 : UInt32} {l3 : UInt32} {l4 : Int32} {t0 : Nat} {t1 : Int32} {t2 : Int32} {d : Dt} (hf : f_X12_snows_107 N sh l0 l2 l3 l4 t0 t1 t2 d = some r) : Z E yX12_snows cX12_snows 6 (some .boolean) 4 (sh, d) 107 [(0, .ref l0), (2, .float l2), (3, .float l3), (4, .int l4)] [.int t2, .int t1, .ref t0] := by
  unfold f_X12_snows_107 at hf
  refine z_sI hf dX12_snows_107  (fun d16 hf => ?_)
  refine z_fload_n 2 dX12_snows_108 rfl rfl ?_
  refine z_fconst0 dX12_snows_109 ?_
  refine z_fcmp dX12_snows_110 ?_
  refine z_if_le 148 hf dX12_snows_111 (by decide) (fun hf => ?_) (fun hf => ?_)
  · refine z_lv [(3, .float l3)] [2] rfl ?_
    exact zb_X12_snows_148 hE hf
  · refine z_aload_n 0 dX12_snows_114 rfl rfl ?_
    refine z_gP (ci := 12) (k := 0) (C := RX12) (T := TX12) (N := 32) rfl inlX12 (by decide) mw_6_19 (fun _ _ _ _ h9 => h9) hf (by decide) rfl dX12_snows_115  (fun v17 hf => ?_)
    refine z_iload 3 dX12_snows_118 rfl ?_
    refine z_iconst 0 0 dX12_snows_120 (by decide) ?_
    refine z_iadd dX12_snows_121 ?_
    refine z_aload_n 0 dX12_snows_122 rfl rfl ?_
    refine z_gP (ci := 12) (k := 0) (C := RX12) (T := TX12) (N := 32) rfl inlX12 (by decide) mw_6_19 (fun _ _ _ _ h9 => h9) hf (by decide) rfl dX12_snows_123  (fun v18 hf => ?_)
    refine z_iload 3 dX12_snows_126 rfl ?_
    refine z_iconst 0 0 dX12_snows_128 (by decide) ?_
    refine z_iadd dX12_snows_129 ?_
    refine z_aI hf dX12_snows_130  (fun v19 hf => ?_)
    refine z_aload_n 0 dX12_snows_131 rfl rfl ?_
    refine z_fload_n 1 dX12_snows_132 rfl rfl ?_
    refine z_fload_n 2 dX12_snows_133 rfl rfl ?_
    refine z_fdiv hf dX12_snows_134  (fun v20 hf => ?_)
    refine z_ldcf mw_25_0 dX12_snows_135 ?_
    refine z_fmul hf dX12_snows_137  (fun v21 hf => ?_)
    obtain ⟨v22, ev22, hf⟩ := ob hf
    refine z_cVi (ci := 12) (T := TX12) (N := 32) (As := [.float v21]) (rest := [.int v19, .int (l4 + (0 : Int32)), .ref v17]) (zm_X12_whole ev22).2 (zm_X12_whole ev22).1 (by decide) rfl (Or.inl rfl) mw_25_6 mw_25_7 mw_25_8 mw_1_5 mw_25_9 yk_X12_whole (by decide) (by decide) rfl (Nat.le_of_ble_eq_true rfl) rfl dX12_snows_138 ?_
    refine z_iadd dX12_snows_141 ?_
    refine z_ldc mw_25_10 dX12_snows_142 ?_
    obtain ⟨v23, ev23, hf⟩ := ob hf
    refine z_cTi (As := [.int (v19 + v22), .int (100000 : Int32)]) (rest := [.int (l4 + (0 : Int32)), .ref v17]) (zm_X12_lesser ev23) (Or.inl rfl) mw_25_11 mw_25_12 mw_1_5 mw_25_13 yk_X12_lesser (by decide) (by decide) rfl (Nat.le_of_ble_eq_true rfl) rfl dX12_snows_144 ?_
    refine z_sI hf dX12_snows_147  (fun d24 hf => ?_)
    refine z_lv [(3, .float l3)] [2] rfl ?_
    exact zb_X12_snows_148 hE hf
set_option maxRecDepth 20000 in
theorem zb_X12_snows_81 {N : Nat} {sh : Sh} {r : Int32 × Dt} {E : EV} (hE : TG E (some (.int r.1)) (sh, r.2))  {l0 : Nat} {l1 : Int32} {l2 : UInt32} {l3 : UInt32} {d : Dt} (hf : f_X12_snows_81 N sh l0 l1 l2 l3 d = some r) : Z E yX12_snows cX12_snows 6 (some .boolean) 4 (sh, d) 81 [(0, .ref l0), (1, .int l1), (2, .float l2), (3, .float l3)] [] := by
  unfold f_X12_snows_81 at hf
  refine z_aload_n 0 dX12_snows_81 rfl rfl ?_
  refine z_iload_n 1 dX12_snows_82 rfl rfl ?_
  obtain ⟨v9, ev9, hf⟩ := ob hf
  refine z_cVi (ci := 12) (T := TX12) (N := 32) (As := [.int l1]) (rest := []) (zm_X12_st ev9).2 (zm_X12_st ev9).1 (by decide) rfl (Or.inl rfl) mw_13_10 mw_13_11 mw_13_12 mw_1_5 mw_13_13 yk_X12_st (by decide) (by decide) rfl (Nat.le_of_ble_eq_true rfl) rfl dX12_snows_83 ?_
  refine z_istore [(4, .int v9), (0, .ref l0), (1, .int l1), (2, .float l2), (3, .float l3)] dX12_snows_86 (by decide) rfl ?_
  refine z_aload_n 1 dX12_snows_88 rfl rfl ?_
  refine z_gP (ci := 12) (k := 0) (C := RX12) (T := TX12) (N := 32) rfl inlX12 (by decide) mw_6_19 (fun _ _ _ _ h9 => h9) hf (by decide) rfl dX12_snows_89  (fun v10 hf => ?_)
  refine z_iload 0 dX12_snows_92 rfl ?_
  refine z_iconst 1 1 dX12_snows_94 (by decide) ?_
  refine z_iadd dX12_snows_95 ?_
  refine z_fload_n 4 dX12_snows_96 rfl rfl ?_
  refine z_fconst0 dX12_snows_97 ?_
  refine z_fcmp dX12_snows_98 ?_
  refine z_if_le 106 hf dX12_snows_99 (by decide) (fun hf => ?_) (fun hf => ?_)
  · refine z_iconst 1 1 dX12_snows_106 (by decide) ?_
    refine z_lv [(0, .ref l0), (2, .float l2), (3, .float l3), (4, .int v9)] [1, 3, 4, 0] rfl ?_
    exact zb_X12_snows_107 hE hf
  · refine z_iconst 0 0 dX12_snows_102 (by decide) ?_
    refine z_goto 107 dX12_snows_103 (by decide) ?_
    refine z_lv [(0, .ref l0), (2, .float l2), (3, .float l3), (4, .int v9)] [1, 3, 4, 0] rfl ?_
    exact zb_X12_snows_107 hE hf
set_option maxRecDepth 20000 in
theorem zb_X12_snows_75 {N : Nat} {sh : Sh} {k7 : Nat → Int32 → UInt32 → UInt32 → Int32 → Dt → Option (Int32 × Dt)} {r : Int32 × Dt} {E : EV} (hE : TG E (some (.int r.1)) (sh, r.2)) (hk7 : ∀ (l0 : Nat) (l1 : Int32) (l2 : UInt32) (l3 : UInt32) (l4 : Int32) (d : Dt), k7 l0 l1 l2 l3 l4 d = some r → Z E yX12_snows cX12_snows 6 (some .boolean) 4 (sh, d) 7 [(0, .ref l0), (1, .int l1), (2, .float l2), (3, .float l3), (4, .int l4)] []) {l0 : Nat} {l1 : Int32} {l2 : UInt32} {l3 : UInt32} {l4 : Int32} {d : Dt} (hf : f_X12_snows_75 N sh k7 l0 l1 l2 l3 l4 d = some r) : Z E yX12_snows cX12_snows 6 (some .boolean) 4 (sh, d) 75 [(0, .ref l0), (1, .int l1), (2, .float l2), (3, .float l3), (4, .int l4)] [] := by
  unfold f_X12_snows_75 at hf
  refine z_iinc [(4, .int (l4 + 1)), (0, .ref l0), (1, .int l1), (2, .float l2), (3, .float l3)] 4 (l4 + 1) dX12_snows_75 rfl rfl (by decide) rfl ?_
  refine z_goto 7 dX12_snows_78 (by decide) ?_
  refine z_lv [(0, .ref l0), (1, .int l1), (2, .float l2), (3, .float l3), (4, .int (l4 + 1))] [1, 2, 3, 4, 0] rfl ?_
  exact hk7 _ _ _ _ _ _ hf
set_option maxRecDepth 20000 in
theorem zb_X12_snows_48 {N : Nat} {sh : Sh} {k7 : Nat → Int32 → UInt32 → UInt32 → Int32 → Dt → Option (Int32 × Dt)} {r : Int32 × Dt} {E : EV} (hE : TG E (some (.int r.1)) (sh, r.2)) (hk7 : ∀ (l0 : Nat) (l1 : Int32) (l2 : UInt32) (l3 : UInt32) (l4 : Int32) (d : Dt), k7 l0 l1 l2 l3 l4 d = some r → Z E yX12_snows cX12_snows 6 (some .boolean) 4 (sh, d) 7 [(0, .ref l0), (1, .int l1), (2, .float l2), (3, .float l3), (4, .int l4)] []) {l0 : Nat} {l1 : Int32} {l2 : UInt32} {l3 : UInt32} {l4 : Int32} {t0 : Int32} {d : Dt} (hf : f_X12_snows_48 N sh k7 l0 l1 l2 l3 l4 t0 d = some r) : Z E yX12_snows cX12_snows 6 (some .boolean) 4 (sh, d) 48 [(0, .ref l0), (1, .int l1), (2, .float l2), (3, .float l3), (4, .int l4)] [.int t0] := by
  unfold f_X12_snows_48 at hf
  refine z_istore [(5, .int t0), (0, .ref l0), (1, .int l1), (2, .float l2), (3, .float l3), (4, .int l4)] dX12_snows_48 (by decide) rfl ?_
  refine z_iload 0 dX12_snows_50 rfl ?_
  refine z_if_le 75 hf dX12_snows_52 (by decide) (fun hf => ?_) (fun hf => ?_)
  · refine z_lv [(0, .ref l0), (1, .int l1), (2, .float l2), (3, .float l3), (4, .int l4)] [1, 2, 3, 4, 5] rfl ?_
    exact zb_X12_snows_75 hE hk7 hf
  · refine z_fload_n 3 dX12_snows_55 rfl rfl ?_
    refine z_aload_n 1 dX12_snows_56 rfl rfl ?_
    refine z_gP (ci := 12) (k := 13) (C := RX12) (T := TX12) (N := 32) rfl inlX12 (by decide) mw_7_3 (fun _ _ _ _ h9 => h9) hf (by decide) rfl dX12_snows_57  (fun v11 hf => ?_)
    refine z_iload 5 dX12_snows_60 rfl ?_
    refine z_aF hf dX12_snows_62  (fun v12 hf => ?_)
    refine z_iload 0 dX12_snows_63 rfl ?_
    refine z_i2f dX12_snows_65 ?_
    refine z_fmul hf dX12_snows_66  (fun v13 hf => ?_)
    refine z_fadd hf dX12_snows_67  (fun v14 hf => ?_)
    refine z_fstore_n [(2, .float v14), (5, .int t0), (0, .ref l0), (1, .int l1), (3, .float l3), (4, .int l4)] dX12_snows_68 rfl (by decide) rfl ?_
    refine z_fload_n 4 dX12_snows_69 rfl rfl ?_
    refine z_iload 1 dX12_snows_70 rfl ?_
    refine z_i2f dX12_snows_72 ?_
    refine z_fadd hf dX12_snows_73  (fun v15 hf => ?_)
    refine z_fstore_n [(3, .float v15), (2, .float v14), (5, .int t0), (0, .ref l0), (1, .int l1), (4, .int l4)] dX12_snows_74 rfl (by decide) rfl ?_
    refine z_lv [(0, .ref l0), (1, .int l1), (2, .float v14), (3, .float v15), (4, .int l4)] [3, 4, 1, 0, 5] rfl ?_
    exact zb_X12_snows_75 hE hk7 hf
set_option maxRecDepth 20000 in
theorem zg_X12_snows_7 {N : Nat} {sh : Sh} {r : Int32 × Dt} {k7 : Nat → Int32 → UInt32 → UInt32 → Int32 → Dt → Option (Int32 × Dt)} {E : EV} (hE : TG E (some (.int r.1)) (sh, r.2))  (hk7 : ∀ (l0 : Nat) (l1 : Int32) (l2 : UInt32) (l3 : UInt32) (l4 : Int32) (d : Dt), k7 l0 l1 l2 l3 l4 d = some r → Z E yX12_snows cX12_snows 6 (some .boolean) 4 (sh, d) 7 [(0, .ref l0), (1, .int l1), (2, .float l2), (3, .float l3), (4, .int l4)] []) {l0 : Nat} {l1 : Int32} {l2 : UInt32} {l3 : UInt32} {l4 : Int32} {d : Dt} (hf : g_X12_snows_7 N sh k7 l0 l1 l2 l3 l4 d = some r) : Z E yX12_snows cX12_snows 6 (some .boolean) 4 (sh, d) 7 [(0, .ref l0), (1, .int l1), (2, .float l2), (3, .float l3), (4, .int l4)] [] := by
  unfold g_X12_snows_7 at hf
  refine z_iload 4 dX12_snows_7 rfl ?_
  refine z_aload_n 0 dX12_snows_9 rfl rfl ?_
  refine z_gP (ci := 12) (k := 0) (C := RX12) (T := TX12) (N := 32) rfl inlX12 (by decide) mw_6_19 (fun _ _ _ _ h9 => h9) hf (by decide) rfl dX12_snows_10  (fun v1 hf => ?_)
  refine z_iconst 2 2 dX12_snows_13 (by decide) ?_
  refine z_aI hf dX12_snows_14  (fun v2 hf => ?_)
  refine z_icmp_ge 81 hf dX12_snows_15 (by decide) (fun hf => ?_) (fun hf => ?_)
  · refine z_lv [(0, .ref l0), (1, .int l1), (2, .float l2), (3, .float l3)] [0, 1, 2, 3] rfl ?_
    exact zb_X12_snows_81 hE hf
  · refine z_aload_n 0 dX12_snows_18 rfl rfl ?_
    refine z_gP (ci := 12) (k := 12) (C := RX12) (T := TX12) (N := 32) rfl inlX12 (by decide) mw_7_2 (fun _ _ _ _ h9 => h9) hf (by decide) rfl dX12_snows_19  (fun v3 hf => ?_)
    refine z_iload 4 dX12_snows_22 rfl ?_
    refine z_aZ hf dX12_snows_24  (fun v4 hf => ?_)
    refine z_if_eq 47 hf dX12_snows_25 (by decide) (fun hf => ?_) (fun hf => ?_)
    · refine z_iconst 0 0 dX12_snows_47 (by decide) ?_
      exact zb_X12_snows_48 hE hk7 hf
    · refine z_aload_n 0 dX12_snows_28 rfl rfl ?_
      refine z_aload_n 0 dX12_snows_29 rfl rfl ?_
      refine z_gP (ci := 12) (k := 0) (C := RX12) (T := TX12) (N := 32) rfl inlX12 (by decide) mw_6_19 (fun _ _ _ _ h9 => h9) hf (by decide) rfl dX12_snows_30  (fun v5 hf => ?_)
      refine z_aload_n 0 dX12_snows_33 rfl rfl ?_
      refine z_iload 4 dX12_snows_34 rfl ?_
      obtain ⟨v6, ev6, hf⟩ := ob hf
      refine z_cVi (ci := 12) (T := TX12) (N := 32) (As := [.int l4]) (rest := [.ref v5, .ref l0]) (zm_X12_ga ev6).2 (zm_X12_ga ev6).1 (by decide) rfl (Or.inl rfl) mw_20_8 mw_20_9 mw_20_10 mw_1_5 mw_20_11 yk_X12_ga (by decide) (by decide) rfl (Nat.le_of_ble_eq_true rfl) rfl dX12_snows_36 ?_
      refine z_aI hf dX12_snows_39  (fun v7 hf => ?_)
      refine z_iload_n 1 dX12_snows_40 rfl rfl ?_
      obtain ⟨v8, ev8, hf⟩ := ob hf
      refine z_cVi (ci := 12) (T := TX12) (N := 32) (As := [.int v7, .int l1]) (rest := []) (zm_X12_near ev8).2 (zm_X12_near ev8).1 (by decide) rfl (Or.inl rfl) mw_28_12 mw_28_13 mw_28_14 mw_1_5 mw_28_15 yk_X12_near (by decide) (by decide) rfl (Nat.le_of_ble_eq_true rfl) rfl dX12_snows_41 ?_
      refine z_goto 48 dX12_snows_44 (by decide) ?_
      exact zb_X12_snows_48 hE hk7 hf
set_option maxRecDepth 20000 in
theorem zb_X12_snows_7 {N : Nat} {sh : Sh} {r : Int32 × Dt} {E : EV} (hE : TG E (some (.int r.1)) (sh, r.2))  : ∀ (n : Nat) (l0 : Nat) (l1 : Int32) (l2 : UInt32) (l3 : UInt32) (l4 : Int32) (d : Dt), f_X12_snows_7 N sh n l0 l1 l2 l3 l4 d = some r → Z E yX12_snows cX12_snows 6 (some .boolean) 4 (sh, d) 7 [(0, .ref l0), (1, .int l1), (2, .float l2), (3, .float l3), (4, .int l4)] [] := by
  intro n
  induction n with
  | zero => intro l0 l1 l2 l3 l4 d hf; cases hf
  | succ n ih => intro l0 l1 l2 l3 l4 d hf; exact zg_X12_snows_7 hE ih hf
set_option maxRecDepth 20000 in
theorem zm_X12_snows {N : Nat} {sh : Sh} {d : Dt} {l0 : Nat} {l1 : Int32} {r : Int32 × Dt} (hf : f_X12_snows N sh l0 l1 d = some r) : isO sh l0 12 ∧ ∀ (l : Launch) (G : GG), Mt l G yX12_snows cX12_snows 6 (some .boolean) 4 [.ref l0, .int l1] (sh, d) (some (.int r.1)) (sh, r.2) := by
  have hf0 := hf
  unfold f_X12_snows at hf
  refine ite_d hf (fun hO hf => ?_) (fun _ hf => ?_)
  · refine ⟨hO, fun l G => mt_of (Or.inl (by decide)) (Nat.le_of_ble_eq_true rfl) Le.rf (fun E hE => ?_)⟩
    show Z E yX12_snows cX12_snows 6 (some .boolean) 4 (sh, d) 0 [(0, .ref l0), (1, .int l1)] []
    refine z_fconst0 dX12_snows_0 ?_
    refine z_fstore_n [(2, .float FP.fconst0), (0, .ref l0), (1, .int l1)] dX12_snows_1 rfl (by decide) rfl ?_
    refine z_fconst0 dX12_snows_2 ?_
    refine z_fstore_n [(3, .float FP.fconst0), (2, .float FP.fconst0), (0, .ref l0), (1, .int l1)] dX12_snows_3 rfl (by decide) rfl ?_
    refine z_iconst 0 0 dX12_snows_4 (by decide) ?_
    refine z_istore [(4, .int (0 : Int32)), (3, .float FP.fconst0), (2, .float FP.fconst0), (0, .ref l0), (1, .int l1)] dX12_snows_5 (by decide) rfl ?_
    refine z_lv [(0, .ref l0), (1, .int l1), (2, .float FP.fconst0), (3, .float FP.fconst0), (4, .int (0 : Int32))] [3, 4, 2, 1, 0] rfl ?_
    exact zb_X12_snows_7 hE N _ _ _ _ _ _ hf
  · cases hf
set_option maxRecDepth 20000 in
theorem zb_X12_snow_147 {N : Nat} {sh : Sh} {r : Int32 × Dt} {E : EV} (hE : TG E (some (.int r.1)) (sh, r.2))  {l0 : Nat} {l2 : Int32} {d : Dt} (hf : f_X12_snow_147 N sh l0 l2 d = some r) : Z E yX12_snow cX12_snow 4 (some .int) 5 (sh, d) 147 [(0, .ref l0), (2, .int l2)] [] := by
  unfold f_X12_snow_147 at hf
  refine z_aload_n 0 dX12_snow_147 rfl rfl ?_
  refine z_iload_n 1 dX12_snow_148 rfl rfl ?_
  obtain ⟨v20, ev20, hf⟩ := ob hf
  refine z_cVi (ci := 12) (T := TX12) (N := 32) (As := [.int l2]) (rest := []) (zm_X12_says ev20).2 (zm_X12_says ev20).1 (by decide) rfl (Or.inl rfl) mw_12_4 mw_12_5 mw_12_6 mw_1_5 mw_12_7 yk_X12_says (by decide) (by decide) rfl (Nat.le_of_ble_eq_true rfl) rfl dX12_snow_149 ?_
  cases hf
  exact z_ireturn hE rfl dX12_snow_152
set_option maxRecDepth 20000 in
theorem zb_X12_snow_139 {N : Nat} {sh : Sh} {k115 : Nat → Int32 → Int32 → Dt → Option (Int32 × Dt)} {r : Int32 × Dt} {E : EV} (hE : TG E (some (.int r.1)) (sh, r.2)) (hk115 : ∀ (l0 : Nat) (l2 : Int32) (l3 : Int32) (d : Dt), k115 l0 l2 l3 d = some r → Z E yX12_snow cX12_snow 4 (some .int) 5 (sh, d) 115 [(0, .ref l0), (2, .int l2), (3, .int l3)] []) {l0 : Nat} {l3 : Int32} {t0 : Int32} {t1 : Int32} {d : Dt} (hf : f_X12_snow_139 N sh k115 l0 l3 t0 t1 d = some r) : Z E yX12_snow cX12_snow 4 (some .int) 5 (sh, d) 139 [(0, .ref l0), (3, .int l3)] [.int t1, .int t0] := by
  unfold f_X12_snow_139 at hf
  refine z_iadd dX12_snow_139 ?_
  refine z_istore_n [(2, .int (t0 + t1)), (0, .ref l0), (3, .int l3)] dX12_snow_140 rfl (by decide) rfl ?_
  refine z_iinc [(3, .int (l3 + 1)), (2, .int (t0 + t1)), (0, .ref l0)] 2 (l3 + 1) dX12_snow_141 rfl rfl (by decide) rfl ?_
  refine z_goto 115 dX12_snow_144 (by decide) ?_
  refine z_lv [(0, .ref l0), (2, .int (t0 + t1)), (3, .int (l3 + 1))] [2, 1, 0] rfl ?_
  exact hk115 _ _ _ _ hf
set_option maxRecDepth 20000 in
theorem zg_X12_snow_115 {N : Nat} {sh : Sh} {r : Int32 × Dt} {k115 : Nat → Int32 → Int32 → Dt → Option (Int32 × Dt)} {E : EV} (hE : TG E (some (.int r.1)) (sh, r.2))  (hk115 : ∀ (l0 : Nat) (l2 : Int32) (l3 : Int32) (d : Dt), k115 l0 l2 l3 d = some r → Z E yX12_snow cX12_snow 4 (some .int) 5 (sh, d) 115 [(0, .ref l0), (2, .int l2), (3, .int l3)] []) {l0 : Nat} {l2 : Int32} {l3 : Int32} {d : Dt} (hf : g_X12_snow_115 N sh k115 l0 l2 l3 d = some r) : Z E yX12_snow cX12_snow 4 (some .int) 5 (sh, d) 115 [(0, .ref l0), (2, .int l2), (3, .int l3)] [] := by
  unfold g_X12_snow_115 at hf
  refine z_iload_n 2 dX12_snow_115 rfl rfl ?_
  refine z_aload_n 0 dX12_snow_116 rfl rfl ?_
  refine z_gP (ci := 12) (k := 0) (C := RX12) (T := TX12) (N := 32) rfl inlX12 (by decide) mw_6_19 (fun _ _ _ _ h9 => h9) hf (by decide) rfl dX12_snow_117  (fun v16 hf => ?_)
  refine z_iconst 1 1 dX12_snow_120 (by decide) ?_
  refine z_aI hf dX12_snow_121  (fun v17 hf => ?_)
  refine z_icmp_ge 147 hf dX12_snow_122 (by decide) (fun hf => ?_) (fun hf => ?_)
  · refine z_lv [(0, .ref l0), (2, .int l2)] [0, 1] rfl ?_
    exact zb_X12_snow_147 hE hf
  · refine z_iload_n 1 dX12_snow_125 rfl rfl ?_
    refine z_aload_n 0 dX12_snow_126 rfl rfl ?_
    refine z_iload_n 2 dX12_snow_127 rfl rfl ?_
    obtain ⟨v18, ev18, hf⟩ := ob hf
    refine z_cVi (ci := 12) (T := TX12) (N := 32) (As := [.int l3]) (rest := [.int l2]) (zm_X12_snows ev18).2 (zm_X12_snows ev18).1 (by decide) rfl (Or.inl rfl) mw_28_8 mw_28_9 mw_28_10 mw_1_5 mw_28_11 yk_X12_snows (by decide) (by decide) rfl (Nat.le_of_ble_eq_true rfl) rfl dX12_snow_128 ?_
    refine z_if_eq 138 hf dX12_snow_131 (by decide) (fun hf => ?_) (fun hf => ?_)
    · refine z_iconst 0 0 dX12_snow_138 (by decide) ?_
      refine z_lv [(0, .ref l0), (3, .int l3)] [0, 2] rfl ?_
      exact zb_X12_snow_139 hE hk115 hf
    · refine z_iconst 1 1 dX12_snow_134 (by decide) ?_
      refine z_goto 139 dX12_snow_135 (by decide) ?_
      refine z_lv [(0, .ref l0), (3, .int l3)] [0, 2] rfl ?_
      exact zb_X12_snow_139 hE hk115 hf
set_option maxRecDepth 20000 in
theorem zb_X12_snow_115 {N : Nat} {sh : Sh} {r : Int32 × Dt} {E : EV} (hE : TG E (some (.int r.1)) (sh, r.2))  : ∀ (n : Nat) (l0 : Nat) (l2 : Int32) (l3 : Int32) (d : Dt), f_X12_snow_115 N sh n l0 l2 l3 d = some r → Z E yX12_snow cX12_snow 4 (some .int) 5 (sh, d) 115 [(0, .ref l0), (2, .int l2), (3, .int l3)] [] := by
  intro n
  induction n with
  | zero => intro l0 l2 l3 d hf; cases hf
  | succ n ih => intro l0 l2 l3 d hf; exact zg_X12_snow_115 hE ih hf
set_option maxRecDepth 20000 in
theorem zb_X12_snow_111 {N : Nat} {sh : Sh} {r : Int32 × Dt} {E : EV} (hE : TG E (some (.int r.1)) (sh, r.2))  {l0 : Nat} {d : Dt} (hf : f_X12_snow_111 N sh l0 d = some r) : Z E yX12_snow cX12_snow 4 (some .int) 5 (sh, d) 111 [(0, .ref l0)] [] := by
  unfold f_X12_snow_111 at hf
  refine z_iconst 0 0 dX12_snow_111 (by decide) ?_
  refine z_istore_n [(2, .int (0 : Int32)), (0, .ref l0)] dX12_snow_112 rfl (by decide) rfl ?_
  refine z_iconst 0 0 dX12_snow_113 (by decide) ?_
  refine z_istore_n [(3, .int (0 : Int32)), (2, .int (0 : Int32)), (0, .ref l0)] dX12_snow_114 rfl (by decide) rfl ?_
  refine z_lv [(0, .ref l0), (2, .int (0 : Int32)), (3, .int (0 : Int32))] [2, 1, 0] rfl ?_
  exact zb_X12_snow_115 hE N _ _ _ _ hf
set_option maxRecDepth 20000 in
theorem zb_X12_snow_104 {N : Nat} {sh : Sh} {k24 : Nat → Int32 → Int32 → Dt → Option (Int32 × Dt)} {r : Int32 × Dt} {E : EV} (hE : TG E (some (.int r.1)) (sh, r.2)) (hk24 : ∀ (l0 : Nat) (l1 : Int32) (l2 : Int32) (d : Dt), k24 l0 l1 l2 d = some r → Z E yX12_snow cX12_snow 4 (some .int) 5 (sh, d) 24 [(0, .ref l0), (1, .int l1), (2, .int l2)] []) {l0 : Nat} {l1 : Int32} {l2 : Int32} {t0 : Nat} {t1 : Int32} {t2 : UInt32} {d : Dt} (hf : f_X12_snow_104 N sh k24 l0 l1 l2 t0 t1 t2 d = some r) : Z E yX12_snow cX12_snow 4 (some .int) 5 (sh, d) 104 [(0, .ref l0), (1, .int l1), (2, .int l2)] [.float t2, .int t1, .ref t0] := by
  unfold f_X12_snow_104 at hf
  refine z_sF hf dX12_snow_104  (fun d19 hf => ?_)
  refine z_iinc [(2, .int (l2 + 1)), (0, .ref l0), (1, .int l1)] 2 (l2 + 1) dX12_snow_105 rfl rfl (by decide) rfl ?_
  refine z_goto 24 dX12_snow_108 (by decide) ?_
  refine z_lv [(0, .ref l0), (1, .int l1), (2, .int (l2 + 1))] [1, 2, 0] rfl ?_
  exact hk24 _ _ _ _ hf
set_option maxRecDepth 20000 in
theorem zb_X12_snow_79 {N : Nat} {sh : Sh} {k24 : Nat → Int32 → Int32 → Dt → Option (Int32 × Dt)} {r : Int32 × Dt} {E : EV} (hE : TG E (some (.int r.1)) (sh, r.2)) (hk24 : ∀ (l0 : Nat) (l1 : Int32) (l2 : Int32) (d : Dt), k24 l0 l1 l2 d = some r → Z E yX12_snow cX12_snow 4 (some .int) 5 (sh, d) 24 [(0, .ref l0), (1, .int l1), (2, .int l2)] []) {l0 : Nat} {l1 : Int32} {l2 : Int32} {t0 : Nat} {t1 : Int32} {t2 : Int32} {d : Dt} (hf : f_X12_snow_79 N sh k24 l0 l1 l2 t0 t1 t2 d = some r) : Z E yX12_snow cX12_snow 4 (some .int) 5 (sh, d) 79 [(0, .ref l0), (1, .int l1), (2, .int l2)] [.int t2, .int t1, .ref t0] := by
  unfold f_X12_snow_79 at hf
  refine z_sZ hf dX12_snow_79  (fun d11 hf => ?_)
  refine z_aload_n 0 dX12_snow_80 rfl rfl ?_
  refine z_gP (ci := 12) (k := 13) (C := RX12) (T := TX12) (N := 32) rfl inlX12 (by decide) mw_7_3 (fun _ _ _ _ h9 => h9) hf (by decide) rfl dX12_snow_81  (fun v12 hf => ?_)
  refine z_iload_n 2 dX12_snow_84 rfl rfl ?_
  refine z_aload_n 0 dX12_snow_85 rfl rfl ?_
  refine z_gP (ci := 12) (k := 12) (C := RX12) (T := TX12) (N := 32) rfl inlX12 (by decide) mw_7_2 (fun _ _ _ _ h9 => h9) hf (by decide) rfl dX12_snow_86  (fun v13 hf => ?_)
  refine z_iload_n 2 dX12_snow_89 rfl rfl ?_
  refine z_aZ hf dX12_snow_90  (fun v14 hf => ?_)
  refine z_if_eq 103 hf dX12_snow_91 (by decide) (fun hf => ?_) (fun hf => ?_)
  · refine z_fconst0 dX12_snow_103 ?_
    exact zb_X12_snow_104 hE hk24 hf
  · refine z_aload_n 0 dX12_snow_94 rfl rfl ?_
    refine z_iload_n 2 dX12_snow_95 rfl rfl ?_
    refine z_iload_n 1 dX12_snow_96 rfl rfl ?_
    obtain ⟨v15, ev15, hf⟩ := ob hf
    refine z_cVf (ci := 12) (T := TX12) (N := 32) (As := [.int l2, .int l1]) (rest := [.int l2, .ref v12]) (zm_X12_x ev15).2 (zm_X12_x ev15).1 (by decide) rfl (Or.inl rfl) mw_25_1 mw_25_2 mw_25_3 mw_1_5 mw_25_4 yk_X12_x (by decide) (by decide) rfl (Nat.le_of_ble_eq_true rfl) rfl dX12_snow_97 ?_
    refine z_goto 104 dX12_snow_100 (by decide) ?_
    exact zb_X12_snow_104 hE hk24 hf
set_option maxRecDepth 20000 in
theorem zb_X12_snow_78 {N : Nat} {sh : Sh} {k24 : Nat → Int32 → Int32 → Dt → Option (Int32 × Dt)} {r : Int32 × Dt} {E : EV} (hE : TG E (some (.int r.1)) (sh, r.2)) (hk24 : ∀ (l0 : Nat) (l1 : Int32) (l2 : Int32) (d : Dt), k24 l0 l1 l2 d = some r → Z E yX12_snow cX12_snow 4 (some .int) 5 (sh, d) 24 [(0, .ref l0), (1, .int l1), (2, .int l2)] []) {l0 : Nat} {l1 : Int32} {l2 : Int32} {t0 : Nat} {t1 : Int32} {d : Dt} (hf : f_X12_snow_78 N sh k24 l0 l1 l2 t0 t1 d = some r) : Z E yX12_snow cX12_snow 4 (some .int) 5 (sh, d) 78 [(0, .ref l0), (1, .int l1), (2, .int l2)] [.int t1, .ref t0] := by
  unfold f_X12_snow_78 at hf
  refine z_iconst 0 0 dX12_snow_78 (by decide) ?_
  exact zb_X12_snow_79 hE hk24 hf
set_option maxRecDepth 20000 in
theorem zg_X12_snow_24 {N : Nat} {sh : Sh} {r : Int32 × Dt} {k24 : Nat → Int32 → Int32 → Dt → Option (Int32 × Dt)} {E : EV} (hE : TG E (some (.int r.1)) (sh, r.2))  (hk24 : ∀ (l0 : Nat) (l1 : Int32) (l2 : Int32) (d : Dt), k24 l0 l1 l2 d = some r → Z E yX12_snow cX12_snow 4 (some .int) 5 (sh, d) 24 [(0, .ref l0), (1, .int l1), (2, .int l2)] []) {l0 : Nat} {l1 : Int32} {l2 : Int32} {d : Dt} (hf : g_X12_snow_24 N sh k24 l0 l1 l2 d = some r) : Z E yX12_snow cX12_snow 4 (some .int) 5 (sh, d) 24 [(0, .ref l0), (1, .int l1), (2, .int l2)] [] := by
  unfold g_X12_snow_24 at hf
  refine z_iload_n 2 dX12_snow_24 rfl rfl ?_
  refine z_aload_n 0 dX12_snow_25 rfl rfl ?_
  refine z_gP (ci := 12) (k := 0) (C := RX12) (T := TX12) (N := 32) rfl inlX12 (by decide) mw_6_19 (fun _ _ _ _ h9 => h9) hf (by decide) rfl dX12_snow_26  (fun v4 hf => ?_)
  refine z_iconst 2 2 dX12_snow_29 (by decide) ?_
  refine z_aI hf dX12_snow_30  (fun v5 hf => ?_)
  refine z_icmp_ge 111 hf dX12_snow_31 (by decide) (fun hf => ?_) (fun hf => ?_)
  · refine z_lv [(0, .ref l0)] [0] rfl ?_
    exact zb_X12_snow_111 hE hf
  · refine z_aload_n 0 dX12_snow_34 rfl rfl ?_
    refine z_iload_n 2 dX12_snow_35 rfl rfl ?_
    refine z_iload_n 1 dX12_snow_36 rfl rfl ?_
    obtain ⟨v6, ev6, hf⟩ := ob hf
    refine z_cVi (ci := 12) (T := TX12) (N := 32) (As := [.int l2, .int l1]) (rest := []) (zm_X12_bars ev6).2 (zm_X12_bars ev6).1 (by decide) rfl (Or.inl rfl) mw_23_8 mw_23_9 mw_23_10 mw_1_5 mw_23_11 yk_X12_bars (by decide) (by decide) rfl (Nat.le_of_ble_eq_true rfl) rfl dX12_snow_37 ?_
    refine z_istore_n [(3, .int v6), (0, .ref l0), (1, .int l1), (2, .int l2)] dX12_snow_40 rfl (by decide) rfl ?_
    refine z_aload_n 1 dX12_snow_41 rfl rfl ?_
    refine z_iload_n 0 dX12_snow_42 rfl rfl ?_
    obtain ⟨v7, ev7, hf⟩ := ob hf
    refine z_cVv (ci := 12) (T := TX12) (N := 32) (As := [.int v6]) (rest := []) (zm_X12_finds ev7).2 (zm_X12_finds ev7).1 (by decide) rfl (Or.inl rfl) mw_11_19 mw_11_20 mw_11_21 mw_1_5 mw_11_22 yk_X12_finds (by decide) (by decide) rfl (Nat.le_of_ble_eq_true rfl) rfl dX12_snow_43 ?_
    refine z_aload_n 1 dX12_snow_46 rfl rfl ?_
    refine z_gP (ci := 12) (k := 12) (C := RX12) (T := TX12) (N := 32) rfl inlX12 (by decide) mw_7_2 (fun _ _ _ _ h9 => h9) hf (by decide) rfl dX12_snow_47  (fun v8 hf => ?_)
    refine z_iload_n 3 dX12_snow_50 rfl rfl ?_
    refine z_iload_n 0 dX12_snow_51 rfl rfl ?_
    refine z_if_ne 78 hf dX12_snow_52 (by decide) (fun hf => ?_) (fun hf => ?_)
    · refine z_lv [(0, .ref l0), (1, .int l1), (2, .int l2)] [1, 2, 3] rfl ?_
      exact zb_X12_snow_78 hE hk24 hf
    · refine z_aload_n 1 dX12_snow_55 rfl rfl ?_
      refine z_gP (ci := 12) (k := 0) (C := RX12) (T := TX12) (N := 32) rfl inlX12 (by decide) mw_6_19 (fun _ _ _ _ h9 => h9) hf (by decide) rfl dX12_snow_56  (fun v9 hf => ?_)
      refine z_sipush 5426 5426 dX12_snow_59 (by decide) ?_
      refine z_sipush 200 200 dX12_snow_62 (by decide) ?_
      refine z_iload_n 3 dX12_snow_65 rfl rfl ?_
      refine z_imul dX12_snow_66 ?_
      refine z_iadd dX12_snow_67 ?_
      refine z_iload_n 2 dX12_snow_68 rfl rfl ?_
      refine z_iadd dX12_snow_69 ?_
      refine z_aI hf dX12_snow_70  (fun v10 hf => ?_)
      refine z_if_ne 78 hf dX12_snow_71 (by decide) (fun hf => ?_) (fun hf => ?_)
      · refine z_lv [(0, .ref l0), (1, .int l1), (2, .int l2)] [1, 2, 3] rfl ?_
        exact zb_X12_snow_78 hE hk24 hf
      · refine z_iconst 1 1 dX12_snow_74 (by decide) ?_
        refine z_goto 79 dX12_snow_75 (by decide) ?_
        refine z_lv [(0, .ref l0), (1, .int l1), (2, .int l2)] [1, 2, 3] rfl ?_
        exact zb_X12_snow_79 hE hk24 hf
set_option maxRecDepth 20000 in
theorem zb_X12_snow_24 {N : Nat} {sh : Sh} {r : Int32 × Dt} {E : EV} (hE : TG E (some (.int r.1)) (sh, r.2))  : ∀ (n : Nat) (l0 : Nat) (l1 : Int32) (l2 : Int32) (d : Dt), f_X12_snow_24 N sh n l0 l1 l2 d = some r → Z E yX12_snow cX12_snow 4 (some .int) 5 (sh, d) 24 [(0, .ref l0), (1, .int l1), (2, .int l2)] [] := by
  intro n
  induction n with
  | zero => intro l0 l1 l2 d hf; cases hf
  | succ n ih => intro l0 l1 l2 d hf; exact zg_X12_snow_24 hE ih hf
set_option maxRecDepth 20000 in
theorem zm_X12_snow {N : Nat} {sh : Sh} {d : Dt} {l0 : Nat} {l1 : Int32} {r : Int32 × Dt} (hf : f_X12_snow N sh l0 l1 d = some r) : isO sh l0 12 ∧ ∀ (l : Launch) (G : GG), Mt l G yX12_snow cX12_snow 4 (some .int) 5 [.ref l0, .int l1] (sh, d) (some (.int r.1)) (sh, r.2) := by
  have hf0 := hf
  unfold f_X12_snow at hf
  refine ite_d hf (fun hO hf => ?_) (fun _ hf => ?_)
  · refine ⟨hO, fun l G => mt_of (Or.inl (by decide)) (Nat.le_of_ble_eq_true rfl) Le.rf (fun E hE => ?_)⟩
    show Z E yX12_snow cX12_snow 4 (some .int) 5 (sh, d) 0 [(0, .ref l0), (1, .int l1)] []
    refine z_iload_n 1 dX12_snow_0 rfl rfl ?_
    refine z_iconst 0 0 dX12_snow_1 (by decide) ?_
    refine z_sipush 199 199 dX12_snow_2 (by decide) ?_
    obtain ⟨v1, ev1, hf⟩ := ob hf
    refine z_cTi (As := [.int l1, .int (0 : Int32), .int (199 : Int32)]) (rest := []) (zm_X12_in ev1) (Or.inl rfl) mw_11_11 mw_11_12 mw_1_5 mw_11_13 yk_X12_in (by decide) (by decide) rfl (Nat.le_of_ble_eq_true rfl) rfl dX12_snow_5 ?_
    refine z_if_ne 18 hf dX12_snow_8 (by decide) (fun hf => ?_) (fun hf => ?_)
    · refine z_aload_n 0 dX12_snow_18 rfl rfl ?_
      obtain ⟨v2, ev2, hf⟩ := ob hf
      refine z_cVv (ci := 12) (T := TX12) (N := 32) (As := []) (rest := []) (zm_X12_keeps ev2).2 (zm_X12_keeps ev2).1 (by decide) rfl (Or.inl rfl) mw_11_23 mw_12_0 mw_12_1 mw_1_5 mw_12_2 yk_X12_keeps (by decide) (by decide) rfl (Nat.le_of_ble_eq_true rfl) rfl dX12_snow_19 ?_
      refine z_iconst 0 0 dX12_snow_22 (by decide) ?_
      refine z_istore_n [(2, .int (0 : Int32)), (0, .ref l0), (1, .int l1)] dX12_snow_23 rfl (by decide) rfl ?_
      refine z_lv [(0, .ref l0), (1, .int l1), (2, .int (0 : Int32))] [1, 2, 0] rfl ?_
      exact zb_X12_snow_24 hE N _ _ _ _ hf
    · refine z_aload_n 0 dX12_snow_11 rfl rfl ?_
      refine z_bipush (-2) (-2) dX12_snow_12 (by decide) ?_
      obtain ⟨v3, ev3, hf⟩ := ob hf
      refine z_cVi (ci := 12) (T := TX12) (N := 32) (As := [.int (-2 : Int32)]) (rest := []) (zm_X12_refuses ev3).2 (zm_X12_refuses ev3).1 (by decide) rfl (Or.inl rfl) mw_11_14 mw_11_15 mw_11_16 mw_1_5 mw_11_17 yk_X12_refuses (by decide) (by decide) rfl (Nat.le_of_ble_eq_true rfl) rfl dX12_snow_14 ?_
      cases hf
      exact z_ireturn hE rfl dX12_snow_17
  · cases hf
set_option maxRecDepth 20000 in
theorem zb_X12_split_288 {N : Nat} {sh : Sh} {r : Int32 × Dt} {E : EV} (hE : TG E (some (.int r.1)) (sh, r.2))  {l0 : Nat} {d : Dt} (hf : f_X12_split_288 N sh l0 d = some r) : Z E yX12_split cX12_split 5 (some .int) 7 (sh, d) 288 [(0, .ref l0)] [] := by
  unfold f_X12_split_288 at hf
  refine z_aload_n 0 dX12_split_288 rfl rfl ?_
  refine z_iconst 1 1 dX12_split_289 (by decide) ?_
  obtain ⟨v48, ev48, hf⟩ := ob hf
  refine z_cVi (ci := 12) (T := TX12) (N := 32) (As := [.int (1 : Int32)]) (rest := []) (zm_X12_says ev48).2 (zm_X12_says ev48).1 (by decide) rfl (Or.inl rfl) mw_12_4 mw_12_5 mw_12_6 mw_1_5 mw_12_7 yk_X12_says (by decide) (by decide) rfl (Nat.le_of_ble_eq_true rfl) rfl dX12_split_290 ?_
  cases hf
  exact z_ireturn hE rfl dX12_split_293
set_option maxRecDepth 20000 in
theorem zb_X12_split_282 {N : Nat} {sh : Sh} {k175 : Nat → Int32 → Dt → Option (Int32 × Dt)} {r : Int32 × Dt} {E : EV} (hE : TG E (some (.int r.1)) (sh, r.2)) (hk175 : ∀ (l0 : Nat) (l2 : Int32) (d : Dt), k175 l0 l2 d = some r → Z E yX12_split cX12_split 5 (some .int) 7 (sh, d) 175 [(0, .ref l0), (2, .int l2)] []) {l0 : Nat} {l2 : Int32} {d : Dt} (hf : f_X12_split_282 N sh k175 l0 l2 d = some r) : Z E yX12_split cX12_split 5 (some .int) 7 (sh, d) 282 [(0, .ref l0), (2, .int l2)] [] := by
  unfold f_X12_split_282 at hf
  refine z_iinc [(2, .int (l2 + 1)), (0, .ref l0)] 1 (l2 + 1) dX12_split_282 rfl rfl (by decide) rfl ?_
  refine z_goto 175 dX12_split_285 (by decide) ?_
  refine z_lv [(0, .ref l0), (2, .int (l2 + 1))] [1, 0] rfl ?_
  exact hk175 _ _ _ hf
set_option maxRecDepth 20000 in
theorem zg_X12_split_175 {N : Nat} {sh : Sh} {r : Int32 × Dt} {k175 : Nat → Int32 → Dt → Option (Int32 × Dt)} {E : EV} (hE : TG E (some (.int r.1)) (sh, r.2))  (hk175 : ∀ (l0 : Nat) (l2 : Int32) (d : Dt), k175 l0 l2 d = some r → Z E yX12_split cX12_split 5 (some .int) 7 (sh, d) 175 [(0, .ref l0), (2, .int l2)] []) {l0 : Nat} {l2 : Int32} {d : Dt} (hf : g_X12_split_175 N sh k175 l0 l2 d = some r) : Z E yX12_split cX12_split 5 (some .int) 7 (sh, d) 175 [(0, .ref l0), (2, .int l2)] [] := by
  unfold g_X12_split_175 at hf
  refine z_iload_n 1 dX12_split_175 rfl rfl ?_
  refine z_aload_n 0 dX12_split_176 rfl rfl ?_
  refine z_gP (ci := 12) (k := 0) (C := RX12) (T := TX12) (N := 32) rfl inlX12 (by decide) mw_6_19 (fun _ _ _ _ h9 => h9) hf (by decide) rfl dX12_split_177  (fun v14 hf => ?_)
  refine z_iconst 3 3 dX12_split_180 (by decide) ?_
  refine z_aI hf dX12_split_181  (fun v15 hf => ?_)
  refine z_icmp_ge 288 hf dX12_split_182 (by decide) (fun hf => ?_) (fun hf => ?_)
  · refine z_lv [(0, .ref l0)] [0] rfl ?_
    exact zb_X12_split_288 hE hf
  · refine z_aload_n 0 dX12_split_185 rfl rfl ?_
    refine z_iload_n 1 dX12_split_186 rfl rfl ?_
    obtain ⟨v16, ev16, hf⟩ := ob hf
    refine z_cVv (ci := 12) (T := TX12) (N := 32) (As := [.int l2]) (rest := []) (zm_X12_losesPart ev16).2 (zm_X12_losesPart ev16).1 (by decide) rfl (Or.inl rfl) mw_33_11 mw_33_12 mw_33_13 mw_1_5 mw_33_14 yk_X12_losesPart (by decide) (by decide) rfl (Nat.le_of_ble_eq_true rfl) rfl dX12_split_187 ?_
    refine z_aload_n 0 dX12_split_190 rfl rfl ?_
    refine z_gP (ci := 12) (k := 0) (C := RX12) (T := TX12) (N := 32) rfl inlX12 (by decide) mw_6_19 (fun _ _ _ _ h9 => h9) hf (by decide) rfl dX12_split_191  (fun v17 hf => ?_)
    refine z_aload_n 0 dX12_split_194 rfl rfl ?_
    refine z_iload_n 1 dX12_split_195 rfl rfl ?_
    obtain ⟨v18, ev18, hf⟩ := ob hf
    refine z_cVi (ci := 12) (T := TX12) (N := 32) (As := [.int l2]) (rest := [.ref v17]) (zm_X12_pl ev18).2 (zm_X12_pl ev18).1 (by decide) rfl (Or.inl rfl) mw_31_6 mw_31_7 mw_31_8 mw_1_5 mw_31_9 yk_X12_pl (by decide) (by decide) rfl (Nat.le_of_ble_eq_true rfl) rfl dX12_split_196 ?_
    refine z_iconst 2 2 dX12_split_199 (by decide) ?_
    refine z_iadd dX12_split_200 ?_
    refine z_aI hf dX12_split_201  (fun v19 hf => ?_)
    refine z_if_ne 282 hf dX12_split_202 (by decide) (fun hf => ?_) (fun hf => ?_)
    · exact zb_X12_split_282 hE hk175 hf
    · refine z_aload_n 0 dX12_split_205 rfl rfl ?_
      refine z_gP (ci := 12) (k := 0) (C := RX12) (T := TX12) (N := 32) rfl inlX12 (by decide) mw_6_19 (fun _ _ _ _ h9 => h9) hf (by decide) rfl dX12_split_206  (fun v20 hf => ?_)
      refine z_aload_n 0 dX12_split_209 rfl rfl ?_
      refine z_iload_n 1 dX12_split_210 rfl rfl ?_
      obtain ⟨v21, ev21, hf⟩ := ob hf
      refine z_cVi (ci := 12) (T := TX12) (N := 32) (As := [.int l2]) (rest := [.ref v20]) (zm_X12_pl ev21).2 (zm_X12_pl ev21).1 (by decide) rfl (Or.inl rfl) mw_31_6 mw_31_7 mw_31_8 mw_1_5 mw_31_9 yk_X12_pl (by decide) (by decide) rfl (Nat.le_of_ble_eq_true rfl) rfl dX12_split_211 ?_
      refine z_iconst 5 5 dX12_split_214 (by decide) ?_
      refine z_iadd dX12_split_215 ?_
      refine z_iconst 1 1 dX12_split_216 (by decide) ?_
      refine z_sI hf dX12_split_217  (fun d22 hf => ?_)
      refine z_aload_n 0 dX12_split_218 rfl rfl ?_
      refine z_gP (ci := 12) (k := 0) (C := RX12) (T := TX12) (N := 32) rfl inlX12 (by decide) mw_6_19 (fun _ _ _ _ h9 => h9) hf (by decide) rfl dX12_split_219  (fun v23 hf => ?_)
      refine z_aload_n 0 dX12_split_222 rfl rfl ?_
      refine z_iload_n 1 dX12_split_223 rfl rfl ?_
      obtain ⟨v24, ev24, hf⟩ := ob hf
      refine z_cVi (ci := 12) (T := TX12) (N := 32) (As := [.int l2]) (rest := [.ref v23]) (zm_X12_pl ev24).2 (zm_X12_pl ev24).1 (by decide) rfl (Or.inl rfl) mw_31_6 mw_31_7 mw_31_8 mw_1_5 mw_31_9 yk_X12_pl (by decide) (by decide) rfl (Nat.le_of_ble_eq_true rfl) rfl dX12_split_224 ?_
      refine z_bipush 6 6 dX12_split_227 (by decide) ?_
      refine z_iadd dX12_split_229 ?_
      refine z_aload_n 0 dX12_split_230 rfl rfl ?_
      refine z_gP (ci := 12) (k := 29) (C := RX12) (T := TX12) (N := 32) rfl inlX12 (by decide) mw_7_14 (fun _ _ _ _ h9 => h9) hf (by decide) rfl dX12_split_231  (fun v25 hf => ?_)
      refine z_iload_n 1 dX12_split_234 rfl rfl ?_
      refine z_aI hf dX12_split_235  (fun v26 hf => ?_)
      refine z_sI hf dX12_split_236  (fun d27 hf => ?_)
      refine z_aload_n 0 dX12_split_237 rfl rfl ?_
      refine z_gP (ci := 12) (k := 0) (C := RX12) (T := TX12) (N := 32) rfl inlX12 (by decide) mw_6_19 (fun _ _ _ _ h9 => h9) hf (by decide) rfl dX12_split_238  (fun v28 hf => ?_)
      refine z_aload_n 0 dX12_split_241 rfl rfl ?_
      refine z_iload_n 1 dX12_split_242 rfl rfl ?_
      obtain ⟨v29, ev29, hf⟩ := ob hf
      refine z_cVi (ci := 12) (T := TX12) (N := 32) (As := [.int l2]) (rest := [.ref v28]) (zm_X12_pl ev29).2 (zm_X12_pl ev29).1 (by decide) rfl (Or.inl rfl) mw_31_6 mw_31_7 mw_31_8 mw_1_5 mw_31_9 yk_X12_pl (by decide) (by decide) rfl (Nat.le_of_ble_eq_true rfl) rfl dX12_split_243 ?_
      refine z_bipush 7 7 dX12_split_246 (by decide) ?_
      refine z_iadd dX12_split_248 ?_
      refine z_aload_n 0 dX12_split_249 rfl rfl ?_
      refine z_gP (ci := 12) (k := 30) (C := RX12) (T := TX12) (N := 32) rfl inlX12 (by decide) mw_7_15 (fun _ _ _ _ h9 => h9) hf (by decide) rfl dX12_split_250  (fun v30 hf => ?_)
      refine z_iload_n 1 dX12_split_253 rfl rfl ?_
      refine z_aI hf dX12_split_254  (fun v31 hf => ?_)
      refine z_aload_n 0 dX12_split_255 rfl rfl ?_
      refine z_gP (ci := 12) (k := 29) (C := RX12) (T := TX12) (N := 32) rfl inlX12 (by decide) mw_7_14 (fun _ _ _ _ h9 => h9) hf (by decide) rfl dX12_split_256  (fun v32 hf => ?_)
      refine z_iload_n 1 dX12_split_259 rfl rfl ?_
      refine z_aI hf dX12_split_260  (fun v33 hf => ?_)
      refine z_isub dX12_split_261 ?_
      refine z_sI hf dX12_split_262  (fun d34 hf => ?_)
      refine z_aload_n 0 dX12_split_263 rfl rfl ?_
      refine z_gP (ci := 12) (k := 0) (C := RX12) (T := TX12) (N := 32) rfl inlX12 (by decide) mw_6_19 (fun _ _ _ _ h9 => h9) hf (by decide) rfl dX12_split_264  (fun v35 hf => ?_)
      refine z_aload_n 0 dX12_split_267 rfl rfl ?_
      refine z_iload_n 1 dX12_split_268 rfl rfl ?_
      obtain ⟨v36, ev36, hf⟩ := ob hf
      refine z_cVi (ci := 12) (T := TX12) (N := 32) (As := [.int l2]) (rest := [.ref v35]) (zm_X12_pl ev36).2 (zm_X12_pl ev36).1 (by decide) rfl (Or.inl rfl) mw_31_6 mw_31_7 mw_31_8 mw_1_5 mw_31_9 yk_X12_pl (by decide) (by decide) rfl (Nat.le_of_ble_eq_true rfl) rfl dX12_split_269 ?_
      refine z_bipush 10 10 dX12_split_272 (by decide) ?_
      refine z_iadd dX12_split_274 ?_
      refine z_aload_n 0 dX12_split_275 rfl rfl ?_
      refine z_gP (ci := 12) (k := 31) (C := RX12) (T := TX12) (N := 32) rfl inlX12 (by decide) mw_7_16 (fun _ _ _ _ h9 => h9) hf (by decide) rfl dX12_split_276  (fun v37 hf => ?_)
      refine z_iload_n 1 dX12_split_279 rfl rfl ?_
      refine z_aI hf dX12_split_280  (fun v38 hf => ?_)
      refine z_sI hf dX12_split_281  (fun d39 hf => ?_)
      exact zb_X12_split_282 hE hk175 hf
set_option maxRecDepth 20000 in
theorem zb_X12_split_175 {N : Nat} {sh : Sh} {r : Int32 × Dt} {E : EV} (hE : TG E (some (.int r.1)) (sh, r.2))  : ∀ (n : Nat) (l0 : Nat) (l2 : Int32) (d : Dt), f_X12_split_175 N sh n l0 l2 d = some r → Z E yX12_split cX12_split 5 (some .int) 7 (sh, d) 175 [(0, .ref l0), (2, .int l2)] [] := by
  intro n
  induction n with
  | zero => intro l0 l2 d hf; cases hf
  | succ n ih => intro l0 l2 d hf; exact zg_X12_split_175 hE ih hf
set_option maxRecDepth 20000 in
theorem zb_X12_split_153 {N : Nat} {sh : Sh} {r : Int32 × Dt} {E : EV} (hE : TG E (some (.int r.1)) (sh, r.2))  {l0 : Nat} {l1 : Int32} {d : Dt} (hf : f_X12_split_153 N sh l0 l1 d = some r) : Z E yX12_split cX12_split 5 (some .int) 7 (sh, d) 153 [(0, .ref l0), (1, .int l1)] [] := by
  unfold f_X12_split_153 at hf
  refine z_iload_n 1 dX12_split_153 rfl rfl ?_
  refine z_aload_n 0 dX12_split_154 rfl rfl ?_
  refine z_gP (ci := 12) (k := 0) (C := RX12) (T := TX12) (N := 32) rfl inlX12 (by decide) mw_6_19 (fun _ _ _ _ h9 => h9) hf (by decide) rfl dX12_split_155  (fun v10 hf => ?_)
  refine z_iconst 4 4 dX12_split_158 (by decide) ?_
  refine z_aI hf dX12_split_159  (fun v11 hf => ?_)
  refine z_icmp_ge 169 hf dX12_split_160 (by decide) (fun hf => ?_) (fun hf => ?_)
  · refine z_aload_n 0 dX12_split_169 rfl rfl ?_
    obtain ⟨v12, ev12, hf⟩ := ob hf
    refine z_cVv (ci := 12) (T := TX12) (N := 32) (As := []) (rest := []) (zm_X12_keeps ev12).2 (zm_X12_keeps ev12).1 (by decide) rfl (Or.inl rfl) mw_11_23 mw_12_0 mw_12_1 mw_1_5 mw_12_2 yk_X12_keeps (by decide) (by decide) rfl (Nat.le_of_ble_eq_true rfl) rfl dX12_split_170 ?_
    refine z_iconst 0 0 dX12_split_173 (by decide) ?_
    refine z_istore_n [(2, .int (0 : Int32)), (0, .ref l0), (1, .int l1)] dX12_split_174 rfl (by decide) rfl ?_
    refine z_lv [(0, .ref l0), (2, .int (0 : Int32))] [1, 0] rfl ?_
    exact zb_X12_split_175 hE N _ _ _ hf
  · refine z_aload_n 0 dX12_split_163 rfl rfl ?_
    refine z_iconst 0 0 dX12_split_164 (by decide) ?_
    obtain ⟨v13, ev13, hf⟩ := ob hf
    refine z_cVi (ci := 12) (T := TX12) (N := 32) (As := [.int (0 : Int32)]) (rest := []) (zm_X12_says ev13).2 (zm_X12_says ev13).1 (by decide) rfl (Or.inl rfl) mw_12_4 mw_12_5 mw_12_6 mw_1_5 mw_12_7 yk_X12_says (by decide) (by decide) rfl (Nat.le_of_ble_eq_true rfl) rfl dX12_split_165 ?_
    cases hf
    exact z_ireturn hE rfl dX12_split_168
set_option maxRecDepth 20000 in
theorem zb_X12_split_140 {N : Nat} {sh : Sh} {k4 : Nat → Int32 → Int32 → Dt → Option (Int32 × Dt)} {r : Int32 × Dt} {E : EV} (hE : TG E (some (.int r.1)) (sh, r.2)) (hk4 : ∀ (l0 : Nat) (l1 : Int32) (l2 : Int32) (d : Dt), k4 l0 l1 l2 d = some r → Z E yX12_split cX12_split 5 (some .int) 7 (sh, d) 4 [(0, .ref l0), (1, .int l1), (2, .int l2)] []) {l0 : Nat} {l1 : Int32} {l2 : Int32} {d : Dt} (hf : f_X12_split_140 N sh k4 l0 l1 l2 d = some r) : Z E yX12_split cX12_split 5 (some .int) 7 (sh, d) 140 [(0, .ref l0), (1, .int l1), (2, .int l2)] [] := by
  unfold f_X12_split_140 at hf
  refine z_aload_n 0 dX12_split_140 rfl rfl ?_
  refine z_gP (ci := 12) (k := 30) (C := RX12) (T := TX12) (N := 32) rfl inlX12 (by decide) mw_7_15 (fun _ _ _ _ h9 => h9) hf (by decide) rfl dX12_split_141  (fun v49 hf => ?_)
  refine z_iload_n 2 dX12_split_144 rfl rfl ?_
  refine z_iload_n 1 dX12_split_145 rfl rfl ?_
  refine z_sI hf dX12_split_146  (fun d50 hf => ?_)
  refine z_iinc [(2, .int (l2 + 1)), (0, .ref l0), (1, .int l1)] 2 (l2 + 1) dX12_split_147 rfl rfl (by decide) rfl ?_
  refine z_goto 4 dX12_split_150 (by decide) ?_
  refine z_lv [(0, .ref l0), (1, .int l1), (2, .int (l2 + 1))] [1, 2, 0] rfl ?_
  exact hk4 _ _ _ _ hf
set_option maxRecDepth 20000 in
theorem zb_X12_split_135 {N : Nat} {sh : Sh} {k4 : Nat → Int32 → Int32 → Dt → Option (Int32 × Dt)} {k49 : Nat → Int32 → Int32 → Int32 → Dt → Option (Int32 × Dt)} {r : Int32 × Dt} {E : EV} (hE : TG E (some (.int r.1)) (sh, r.2)) (hk4 : ∀ (l0 : Nat) (l1 : Int32) (l2 : Int32) (d : Dt), k4 l0 l1 l2 d = some r → Z E yX12_split cX12_split 5 (some .int) 7 (sh, d) 4 [(0, .ref l0), (1, .int l1), (2, .int l2)] []) (hk49 : ∀ (l0 : Nat) (l1 : Int32) (l2 : Int32) (l3 : Int32) (d : Dt), k49 l0 l1 l2 l3 d = some r → Z E yX12_split cX12_split 5 (some .int) 7 (sh, d) 49 [(0, .ref l0), (1, .int l1), (2, .int l2), (3, .int l3)] []) {l0 : Nat} {l2 : Int32} {l3 : Int32} {t0 : Int32} {t1 : Int32} {d : Dt} (hf : f_X12_split_135 N sh k4 k49 l0 l2 l3 t0 t1 d = some r) : Z E yX12_split cX12_split 5 (some .int) 7 (sh, d) 135 [(0, .ref l0), (2, .int l2), (3, .int l3)] [.int t1, .int t0] := by
  unfold f_X12_split_135 at hf
  refine z_iadd dX12_split_135 ?_
  refine z_istore_n [(1, .int (t0 + t1)), (0, .ref l0), (2, .int l2), (3, .int l3)] dX12_split_136 rfl (by decide) rfl ?_
  refine z_goto 49 dX12_split_137 (by decide) ?_
  refine z_lv [(0, .ref l0), (1, .int (t0 + t1)), (2, .int l2), (3, .int l3)] [1, 0, 2, 3] rfl ?_
  exact hk49 _ _ _ _ _ hf
set_option maxRecDepth 20000 in
theorem zb_X12_split_123 {N : Nat} {sh : Sh} {k4 : Nat → Int32 → Int32 → Dt → Option (Int32 × Dt)} {k49 : Nat → Int32 → Int32 → Int32 → Dt → Option (Int32 × Dt)} {r : Int32 × Dt} {E : EV} (hE : TG E (some (.int r.1)) (sh, r.2)) (hk4 : ∀ (l0 : Nat) (l1 : Int32) (l2 : Int32) (d : Dt), k4 l0 l1 l2 d = some r → Z E yX12_split cX12_split 5 (some .int) 7 (sh, d) 4 [(0, .ref l0), (1, .int l1), (2, .int l2)] []) (hk49 : ∀ (l0 : Nat) (l1 : Int32) (l2 : Int32) (l3 : Int32) (d : Dt), k49 l0 l1 l2 l3 d = some r → Z E yX12_split cX12_split 5 (some .int) 7 (sh, d) 49 [(0, .ref l0), (1, .int l1), (2, .int l2), (3, .int l3)] []) {l0 : Nat} {l1 : Int32} {l2 : Int32} {l3 : Int32} {t0 : Nat} {t1 : Int32} {t2 : Int32} {t3 : Int32} {d : Dt} (hf : f_X12_split_123 N sh k4 k49 l0 l1 l2 l3 t0 t1 t2 t3 d = some r) : Z E yX12_split cX12_split 5 (some .int) 7 (sh, d) 123 [(0, .ref l0), (1, .int l1), (2, .int l2), (3, .int l3)] [.int t3, .int t2, .int t1, .ref t0] := by
  unfold f_X12_split_123 at hf
  refine z_iadd dX12_split_123 ?_
  refine z_sI hf dX12_split_124  (fun d53 hf => ?_)
  refine z_iload_n 1 dX12_split_125 rfl rfl ?_
  refine z_iload_n 3 dX12_split_126 rfl rfl ?_
  refine z_if_eq 134 hf dX12_split_127 (by decide) (fun hf => ?_) (fun hf => ?_)
  · refine z_iconst 0 0 dX12_split_134 (by decide) ?_
    refine z_lv [(0, .ref l0), (2, .int l2), (3, .int l3)] [0, 2, 3] rfl ?_
    exact zb_X12_split_135 hE hk4 hk49 hf
  · refine z_iconst 1 1 dX12_split_130 (by decide) ?_
    refine z_goto 135 dX12_split_131 (by decide) ?_
    refine z_lv [(0, .ref l0), (2, .int l2), (3, .int l3)] [0, 2, 3] rfl ?_
    exact zb_X12_split_135 hE hk4 hk49 hf
set_option maxRecDepth 20000 in
theorem zb_X12_split_105 {N : Nat} {sh : Sh} {k4 : Nat → Int32 → Int32 → Dt → Option (Int32 × Dt)} {k49 : Nat → Int32 → Int32 → Int32 → Dt → Option (Int32 × Dt)} {r : Int32 × Dt} {E : EV} (hE : TG E (some (.int r.1)) (sh, r.2)) (hk4 : ∀ (l0 : Nat) (l1 : Int32) (l2 : Int32) (d : Dt), k4 l0 l1 l2 d = some r → Z E yX12_split cX12_split 5 (some .int) 7 (sh, d) 4 [(0, .ref l0), (1, .int l1), (2, .int l2)] []) (hk49 : ∀ (l0 : Nat) (l1 : Int32) (l2 : Int32) (l3 : Int32) (d : Dt), k49 l0 l1 l2 l3 d = some r → Z E yX12_split cX12_split 5 (some .int) 7 (sh, d) 49 [(0, .ref l0), (1, .int l1), (2, .int l2), (3, .int l3)] []) {l0 : Nat} {l1 : Int32} {l2 : Int32} {l4 : Int32} {t0 : Int32} {d : Dt} (hf : f_X12_split_105 N sh k4 k49 l0 l1 l2 l4 t0 d = some r) : Z E yX12_split cX12_split 5 (some .int) 7 (sh, d) 105 [(0, .ref l0), (1, .int l1), (2, .int l2), (4, .int l4)] [.int t0] := by
  unfold f_X12_split_105 at hf
  refine z_istore_n [(3, .int t0), (0, .ref l0), (1, .int l1), (2, .int l2), (4, .int l4)] dX12_split_105 rfl (by decide) rfl ?_
  refine z_aload_n 1 dX12_split_106 rfl rfl ?_
  refine z_gP (ci := 12) (k := 31) (C := RX12) (T := TX12) (N := 32) rfl inlX12 (by decide) mw_7_16 (fun _ _ _ _ h9 => h9) hf (by decide) rfl dX12_split_107  (fun v51 hf => ?_)
  refine z_iload_n 3 dX12_split_110 rfl rfl ?_
  refine z_dup2_11 dX12_split_111 rfl rfl ?_
  refine z_aI hf dX12_split_112  (fun v52 hf => ?_)
  refine z_iload_n 0 dX12_split_113 rfl rfl ?_
  refine z_if_eq 122 hf dX12_split_114 (by decide) (fun hf => ?_) (fun hf => ?_)
  · refine z_iconst 0 0 dX12_split_122 (by decide) ?_
    refine z_lv [(0, .ref l0), (1, .int l1), (2, .int l2), (3, .int t0)] [1, 2, 3, 0] rfl ?_
    exact zb_X12_split_123 hE hk4 hk49 hf
  · refine z_iload 4 dX12_split_117 rfl ?_
    refine z_goto 123 dX12_split_119 (by decide) ?_
    refine z_lv [(0, .ref l0), (1, .int l1), (2, .int l2), (3, .int t0)] [1, 2, 3, 0] rfl ?_
    exact zb_X12_split_123 hE hk4 hk49 hf
set_option maxRecDepth 20000 in
theorem zb_X12_split_104 {N : Nat} {sh : Sh} {k4 : Nat → Int32 → Int32 → Dt → Option (Int32 × Dt)} {k49 : Nat → Int32 → Int32 → Int32 → Dt → Option (Int32 × Dt)} {r : Int32 × Dt} {E : EV} (hE : TG E (some (.int r.1)) (sh, r.2)) (hk4 : ∀ (l0 : Nat) (l1 : Int32) (l2 : Int32) (d : Dt), k4 l0 l1 l2 d = some r → Z E yX12_split cX12_split 5 (some .int) 7 (sh, d) 4 [(0, .ref l0), (1, .int l1), (2, .int l2)] []) (hk49 : ∀ (l0 : Nat) (l1 : Int32) (l2 : Int32) (l3 : Int32) (d : Dt), k49 l0 l1 l2 l3 d = some r → Z E yX12_split cX12_split 5 (some .int) 7 (sh, d) 49 [(0, .ref l0), (1, .int l1), (2, .int l2), (3, .int l3)] []) {l0 : Nat} {l1 : Int32} {l2 : Int32} {l4 : Int32} {d : Dt} (hf : f_X12_split_104 N sh k4 k49 l0 l1 l2 l4 d = some r) : Z E yX12_split cX12_split 5 (some .int) 7 (sh, d) 104 [(0, .ref l0), (1, .int l1), (2, .int l2), (4, .int l4)] [] := by
  unfold f_X12_split_104 at hf
  refine z_iconst 0 0 dX12_split_104 (by decide) ?_
  exact zb_X12_split_105 hE hk4 hk49 hf
set_option maxRecDepth 20000 in
theorem zg_X12_split_49 {N : Nat} {sh : Sh} {k4 : Nat → Int32 → Int32 → Dt → Option (Int32 × Dt)} {r : Int32 × Dt} {k49 : Nat → Int32 → Int32 → Int32 → Dt → Option (Int32 × Dt)} {E : EV} (hE : TG E (some (.int r.1)) (sh, r.2)) (hk4 : ∀ (l0 : Nat) (l1 : Int32) (l2 : Int32) (d : Dt), k4 l0 l1 l2 d = some r → Z E yX12_split cX12_split 5 (some .int) 7 (sh, d) 4 [(0, .ref l0), (1, .int l1), (2, .int l2)] []) (hk49 : ∀ (l0 : Nat) (l1 : Int32) (l2 : Int32) (l3 : Int32) (d : Dt), k49 l0 l1 l2 l3 d = some r → Z E yX12_split cX12_split 5 (some .int) 7 (sh, d) 49 [(0, .ref l0), (1, .int l1), (2, .int l2), (3, .int l3)] []) {l0 : Nat} {l1 : Int32} {l2 : Int32} {l3 : Int32} {d : Dt} (hf : g_X12_split_49 N sh k4 k49 l0 l1 l2 l3 d = some r) : Z E yX12_split cX12_split 5 (some .int) 7 (sh, d) 49 [(0, .ref l0), (1, .int l1), (2, .int l2), (3, .int l3)] [] := by
  unfold g_X12_split_49 at hf
  refine z_iload_n 3 dX12_split_49 rfl rfl ?_
  refine z_if_eq 140 hf dX12_split_50 (by decide) (fun hf => ?_) (fun hf => ?_)
  · refine z_lv [(0, .ref l0), (1, .int l1), (2, .int l2)] [0, 1, 2] rfl ?_
    exact zb_X12_split_140 hE hk4 hf
  · refine z_iload_n 1 dX12_split_53 rfl rfl ?_
    refine z_aload_n 0 dX12_split_54 rfl rfl ?_
    refine z_gP (ci := 12) (k := 0) (C := RX12) (T := TX12) (N := 32) rfl inlX12 (by decide) mw_6_19 (fun _ _ _ _ h9 => h9) hf (by decide) rfl dX12_split_55  (fun v40 hf => ?_)
    refine z_iconst 4 4 dX12_split_58 (by decide) ?_
    refine z_aI hf dX12_split_59  (fun v41 hf => ?_)
    refine z_icmp_ge 140 hf dX12_split_60 (by decide) (fun hf => ?_) (fun hf => ?_)
    · refine z_lv [(0, .ref l0), (1, .int l1), (2, .int l2)] [0, 1, 2] rfl ?_
      exact zb_X12_split_140 hE hk4 hf
    · refine z_aload_n 0 dX12_split_63 rfl rfl ?_
      refine z_iload_n 2 dX12_split_64 rfl rfl ?_
      refine z_iload_n 1 dX12_split_65 rfl rfl ?_
      obtain ⟨v42, ev42, hf⟩ := ob hf
      refine z_cVi (ci := 12) (T := TX12) (N := 32) (As := [.int l2, .int l1]) (rest := []) (zm_X12_minutes ev42).2 (zm_X12_minutes ev42).1 (by decide) rfl (Or.inl rfl) mw_53_7 mw_53_8 mw_53_9 mw_1_5 mw_53_10 yk_X12_minutes (by decide) (by decide) rfl (Nat.le_of_ble_eq_true rfl) rfl dX12_split_66 ?_
      refine z_istore [(4, .int v42.1), (0, .ref l0), (1, .int l1), (2, .int l2), (3, .int l3)] dX12_split_69 (by decide) rfl ?_
      refine z_iload 0 dX12_split_71 rfl ?_
      refine z_if_lt 104 hf dX12_split_73 (by decide) (fun hf => ?_) (fun hf => ?_)
      · refine z_lv [(0, .ref l0), (1, .int l1), (2, .int l2), (4, .int v42.1)] [1, 2, 3, 0] rfl ?_
        exact zb_X12_split_104 hE hk4 hk49 hf
      · refine z_aload_n 1 dX12_split_76 rfl rfl ?_
        refine z_gP (ci := 12) (k := 31) (C := RX12) (T := TX12) (N := 32) rfl inlX12 (by decide) mw_7_16 (fun _ _ _ _ h9 => h9) hf (by decide) rfl dX12_split_77  (fun v43 hf => ?_)
        refine z_iload_n 3 dX12_split_80 rfl rfl ?_
        refine z_aI hf dX12_split_81  (fun v44 hf => ?_)
        refine z_iload 0 dX12_split_82 rfl ?_
        refine z_iadd dX12_split_84 ?_
        refine z_aload_n 1 dX12_split_85 rfl rfl ?_
        refine z_gP (ci := 12) (k := 0) (C := RX12) (T := TX12) (N := 32) rfl inlX12 (by decide) mw_6_19 (fun _ _ _ _ h9 => h9) hf (by decide) rfl dX12_split_86  (fun v45 hf => ?_)
        refine z_aload_n 1 dX12_split_89 rfl rfl ?_
        refine z_iload_n 3 dX12_split_90 rfl rfl ?_
        obtain ⟨v46, ev46, hf⟩ := ob hf
        refine z_cVi (ci := 12) (T := TX12) (N := 32) (As := [.int l2]) (rest := [.ref v45, .int (v44 + v42.1)]) (zm_X12_pl ev46).2 (zm_X12_pl ev46).1 (by decide) rfl (Or.inl rfl) mw_31_6 mw_31_7 mw_31_8 mw_1_5 mw_31_9 yk_X12_pl (by decide) (by decide) rfl (Nat.le_of_ble_eq_true rfl) rfl dX12_split_91 ?_
        refine z_iconst 1 1 dX12_split_94 (by decide) ?_
        refine z_iadd dX12_split_95 ?_
        refine z_aI hf dX12_split_96  (fun v47 hf => ?_)
        refine z_icmp_gt 104 hf dX12_split_97 (by decide) (fun hf => ?_) (fun hf => ?_)
        · refine z_lv [(0, .ref l0), (1, .int l1), (2, .int l2), (4, .int v42.1)] [1, 2, 3, 0] rfl ?_
          exact zb_X12_split_104 hE hk4 hk49 hf
        · refine z_iconst 1 1 dX12_split_100 (by decide) ?_
          refine z_goto 105 dX12_split_101 (by decide) ?_
          refine z_lv [(0, .ref l0), (1, .int l1), (2, .int l2), (4, .int v42.1)] [1, 2, 3, 0] rfl ?_
          exact zb_X12_split_105 hE hk4 hk49 hf
set_option maxRecDepth 20000 in
theorem zb_X12_split_49 {N : Nat} {sh : Sh} {k4 : Nat → Int32 → Int32 → Dt → Option (Int32 × Dt)} {r : Int32 × Dt} {E : EV} (hE : TG E (some (.int r.1)) (sh, r.2)) (hk4 : ∀ (l0 : Nat) (l1 : Int32) (l2 : Int32) (d : Dt), k4 l0 l1 l2 d = some r → Z E yX12_split cX12_split 5 (some .int) 7 (sh, d) 4 [(0, .ref l0), (1, .int l1), (2, .int l2)] []) : ∀ (n : Nat) (l0 : Nat) (l1 : Int32) (l2 : Int32) (l3 : Int32) (d : Dt), f_X12_split_49 N sh k4 n l0 l1 l2 l3 d = some r → Z E yX12_split cX12_split 5 (some .int) 7 (sh, d) 49 [(0, .ref l0), (1, .int l1), (2, .int l2), (3, .int l3)] [] := by
  intro n
  induction n with
  | zero => intro l0 l1 l2 l3 d hf; cases hf
  | succ n ih => intro l0 l1 l2 l3 d hf; exact zg_X12_split_49 hE hk4 ih hf
set_option maxRecDepth 20000 in
theorem zb_X12_split_48 {N : Nat} {sh : Sh} {k4 : Nat → Int32 → Int32 → Dt → Option (Int32 × Dt)} {r : Int32 × Dt} {E : EV} (hE : TG E (some (.int r.1)) (sh, r.2)) (hk4 : ∀ (l0 : Nat) (l1 : Int32) (l2 : Int32) (d : Dt), k4 l0 l1 l2 d = some r → Z E yX12_split cX12_split 5 (some .int) 7 (sh, d) 4 [(0, .ref l0), (1, .int l1), (2, .int l2)] []) {l0 : Nat} {l1 : Int32} {l2 : Int32} {t0 : Int32} {d : Dt} (hf : f_X12_split_48 N sh k4 l0 l1 l2 t0 d = some r) : Z E yX12_split cX12_split 5 (some .int) 7 (sh, d) 48 [(0, .ref l0), (1, .int l1), (2, .int l2)] [.int t0] := by
  unfold f_X12_split_48 at hf
  refine z_istore_n [(3, .int t0), (0, .ref l0), (1, .int l1), (2, .int l2)] dX12_split_48 rfl (by decide) rfl ?_
  refine z_lv [(0, .ref l0), (1, .int l1), (2, .int l2), (3, .int t0)] [1, 2, 3, 0] rfl ?_
  exact zb_X12_split_49 hE hk4 N _ _ _ _ _ hf
set_option maxRecDepth 20000 in
theorem zg_X12_split_4 {N : Nat} {sh : Sh} {r : Int32 × Dt} {k4 : Nat → Int32 → Int32 → Dt → Option (Int32 × Dt)} {E : EV} (hE : TG E (some (.int r.1)) (sh, r.2))  (hk4 : ∀ (l0 : Nat) (l1 : Int32) (l2 : Int32) (d : Dt), k4 l0 l1 l2 d = some r → Z E yX12_split cX12_split 5 (some .int) 7 (sh, d) 4 [(0, .ref l0), (1, .int l1), (2, .int l2)] []) {l0 : Nat} {l1 : Int32} {l2 : Int32} {d : Dt} (hf : g_X12_split_4 N sh k4 l0 l1 l2 d = some r) : Z E yX12_split cX12_split 5 (some .int) 7 (sh, d) 4 [(0, .ref l0), (1, .int l1), (2, .int l2)] [] := by
  unfold g_X12_split_4 at hf
  refine z_iload_n 2 dX12_split_4 rfl rfl ?_
  refine z_aload_n 0 dX12_split_5 rfl rfl ?_
  refine z_gP (ci := 12) (k := 0) (C := RX12) (T := TX12) (N := 32) rfl inlX12 (by decide) mw_6_19 (fun _ _ _ _ h9 => h9) hf (by decide) rfl dX12_split_6  (fun v1 hf => ?_)
  refine z_iconst 3 3 dX12_split_9 (by decide) ?_
  refine z_aI hf dX12_split_10  (fun v2 hf => ?_)
  refine z_icmp_ge 153 hf dX12_split_11 (by decide) (fun hf => ?_) (fun hf => ?_)
  · refine z_lv [(0, .ref l0), (1, .int l1)] [0, 1] rfl ?_
    exact zb_X12_split_153 hE hf
  · refine z_aload_n 0 dX12_split_14 rfl rfl ?_
    refine z_gP (ci := 12) (k := 29) (C := RX12) (T := TX12) (N := 32) rfl inlX12 (by decide) mw_7_14 (fun _ _ _ _ h9 => h9) hf (by decide) rfl dX12_split_15  (fun v3 hf => ?_)
    refine z_iload_n 2 dX12_split_18 rfl rfl ?_
    refine z_iload_n 1 dX12_split_19 rfl rfl ?_
    refine z_sI hf dX12_split_20  (fun d4 hf => ?_)
    refine z_aload_n 0 dX12_split_21 rfl rfl ?_
    refine z_gP (ci := 12) (k := 31) (C := RX12) (T := TX12) (N := 32) rfl inlX12 (by decide) mw_7_16 (fun _ _ _ _ h9 => h9) hf (by decide) rfl dX12_split_22  (fun v5 hf => ?_)
    refine z_iload_n 2 dX12_split_25 rfl rfl ?_
    refine z_iconst 0 0 dX12_split_26 (by decide) ?_
    refine z_sI hf dX12_split_27  (fun d6 hf => ?_)
    refine z_aload_n 0 dX12_split_28 rfl rfl ?_
    refine z_gP (ci := 12) (k := 0) (C := RX12) (T := TX12) (N := 32) rfl inlX12 (by decide) mw_6_19 (fun _ _ _ _ h9 => h9) hf (by decide) rfl dX12_split_29  (fun v7 hf => ?_)
    refine z_aload_n 0 dX12_split_32 rfl rfl ?_
    refine z_iload_n 2 dX12_split_33 rfl rfl ?_
    obtain ⟨v8, ev8, hf⟩ := ob hf
    refine z_cVi (ci := 12) (T := TX12) (N := 32) (As := [.int l2]) (rest := [.ref v7]) (zm_X12_pl ev8).2 (zm_X12_pl ev8).1 (by decide) rfl (Or.inl rfl) mw_31_6 mw_31_7 mw_31_8 mw_1_5 mw_31_9 yk_X12_pl (by decide) (by decide) rfl (Nat.le_of_ble_eq_true rfl) rfl dX12_split_34 ?_
    refine z_iconst 2 2 dX12_split_37 (by decide) ?_
    refine z_iadd dX12_split_38 ?_
    refine z_aI hf dX12_split_39  (fun v9 hf => ?_)
    refine z_if_ne 47 hf dX12_split_40 (by decide) (fun hf => ?_) (fun hf => ?_)
    · refine z_iconst 0 0 dX12_split_47 (by decide) ?_
      exact zb_X12_split_48 hE hk4 hf
    · refine z_iconst 1 1 dX12_split_43 (by decide) ?_
      refine z_goto 48 dX12_split_44 (by decide) ?_
      exact zb_X12_split_48 hE hk4 hf
set_option maxRecDepth 20000 in
theorem zb_X12_split_4 {N : Nat} {sh : Sh} {r : Int32 × Dt} {E : EV} (hE : TG E (some (.int r.1)) (sh, r.2))  : ∀ (n : Nat) (l0 : Nat) (l1 : Int32) (l2 : Int32) (d : Dt), f_X12_split_4 N sh n l0 l1 l2 d = some r → Z E yX12_split cX12_split 5 (some .int) 7 (sh, d) 4 [(0, .ref l0), (1, .int l1), (2, .int l2)] [] := by
  intro n
  induction n with
  | zero => intro l0 l1 l2 d hf; cases hf
  | succ n ih => intro l0 l1 l2 d hf; exact zg_X12_split_4 hE ih hf
set_option maxRecDepth 20000 in
theorem zm_X12_split {N : Nat} {sh : Sh} {d : Dt} {l0 : Nat} {r : Int32 × Dt} (hf : f_X12_split N sh l0 d = some r) : isO sh l0 12 ∧ ∀ (l : Launch) (G : GG), Mt l G yX12_split cX12_split 5 (some .int) 7 [.ref l0] (sh, d) (some (.int r.1)) (sh, r.2) := by
  have hf0 := hf
  unfold f_X12_split at hf
  refine ite_d hf (fun hO hf => ?_) (fun _ hf => ?_)
  · refine ⟨hO, fun l G => mt_of (Or.inl (by decide)) (Nat.le_of_ble_eq_true rfl) Le.rf (fun E hE => ?_)⟩
    show Z E yX12_split cX12_split 5 (some .int) 7 (sh, d) 0 [(0, .ref l0)] []
    refine z_iconst 0 0 dX12_split_0 (by decide) ?_
    refine z_istore_n [(1, .int (0 : Int32)), (0, .ref l0)] dX12_split_1 rfl (by decide) rfl ?_
    refine z_iconst 0 0 dX12_split_2 (by decide) ?_
    refine z_istore_n [(2, .int (0 : Int32)), (1, .int (0 : Int32)), (0, .ref l0)] dX12_split_3 rfl (by decide) rfl ?_
    refine z_lv [(0, .ref l0), (1, .int (0 : Int32)), (2, .int (0 : Int32))] [2, 1, 0] rfl ?_
    exact zb_X12_split_4 hE N _ _ _ _ hf
  · cases hf
set_option maxRecDepth 20000 in
theorem zm_X12_status {N : Nat} {sh : Sh} {d : Dt} {l0 : Nat} {r : Int32} (hf : f_X12_status N sh l0 d = some r) : isO sh l0 12 ∧ ∀ (l : Launch) (G : GG), Mt l G yX12_status cX12_status 1 (some .int) 1 [.ref l0] (sh, d) (some (.int r)) (sh, d) := by
  have hf0 := hf
  unfold f_X12_status at hf
  refine ite_d hf (fun hO hf => ?_) (fun _ hf => ?_)
  · refine ⟨hO, fun l G => mt_of (Or.inl (by decide)) (Nat.le_of_ble_eq_true rfl) Le.rf (fun E hE => ?_)⟩
    show Z E yX12_status cX12_status 1 (some .int) 1 (sh, d) 0 [(0, .ref l0)] []
    refine z_aload_n 0 dX12_status_0 rfl rfl ?_
    refine z_gI (ci := 12) (k := 3) (C := RX12) (T := TX12) (N := 32) rfl inlX12 (by decide) mw_11_18 (fun _ _ _ _ h9 => h9) hf (by decide) rfl dX12_status_1  (fun v1 hf => ?_)
    cases hf
    exact z_ireturn hE rfl dX12_status_4
  · cases hf
set_option maxRecDepth 20000 in
theorem zb_X12_street_32 {N : Nat} {sh : Sh} {r : Int32 × Dt} {E : EV} (hE : TG E (some (.int r.1)) (sh, r.2))  {l0 : Nat} {d : Dt} (hf : f_X12_street_32 N sh l0 d = some r) : Z E yX12_street cX12_street 6 (some .int) 3 (sh, d) 32 [(0, .ref l0)] [] := by
  unfold f_X12_street_32 at hf
  refine z_aload_n 0 dX12_street_32 rfl rfl ?_
  refine z_bipush (-2) (-2) dX12_street_33 (by decide) ?_
  obtain ⟨v23, ev23, hf⟩ := ob hf
  refine z_cVi (ci := 12) (T := TX12) (N := 32) (As := [.int (-2 : Int32)]) (rest := []) (zm_X12_refuses ev23).2 (zm_X12_refuses ev23).1 (by decide) rfl (Or.inl rfl) mw_11_14 mw_11_15 mw_11_16 mw_1_5 mw_11_17 yk_X12_refuses (by decide) (by decide) rfl (Nat.le_of_ble_eq_true rfl) rfl dX12_street_35 ?_
  cases hf
  exact z_ireturn hE rfl dX12_street_38
set_option maxRecDepth 20000 in
theorem zb_X12_street_147 {N : Nat} {sh : Sh} {r : Int32 × Dt} {E : EV} (hE : TG E (some (.int r.1)) (sh, r.2))  {l0 : Nat} {l1 : Int32} {l2 : Int32} {l3 : Int32} {l5 : Int32} {t0 : Nat} {t1 : Int32} {t2 : Int32} {d : Dt} (hf : f_X12_street_147 N sh l0 l1 l2 l3 l5 t0 t1 t2 d = some r) : Z E yX12_street cX12_street 6 (some .int) 3 (sh, d) 147 [(0, .ref l0), (1, .int l1), (2, .int l2), (3, .int l3), (5, .int l5)] [.int t2, .int t1, .ref t0] := by
  unfold f_X12_street_147 at hf
  refine z_sI hf dX12_street_147  (fun d24 hf => ?_)
  refine z_aload_n 0 dX12_street_148 rfl rfl ?_
  refine z_gP (ci := 12) (k := 0) (C := RX12) (T := TX12) (N := 32) rfl inlX12 (by decide) mw_6_19 (fun _ _ _ _ h9 => h9) hf (by decide) rfl dX12_street_149  (fun v25 hf => ?_)
  refine z_iload 4 dX12_street_152 rfl ?_
  refine z_bipush 6 6 dX12_street_154 (by decide) ?_
  refine z_iadd dX12_street_156 ?_
  refine z_iload_n 3 dX12_street_157 rfl rfl ?_
  refine z_sI hf dX12_street_158  (fun d26 hf => ?_)
  refine z_aload_n 0 dX12_street_159 rfl rfl ?_
  refine z_gP (ci := 12) (k := 0) (C := RX12) (T := TX12) (N := 32) rfl inlX12 (by decide) mw_6_19 (fun _ _ _ _ h9 => h9) hf (by decide) rfl dX12_street_160  (fun v27 hf => ?_)
  refine z_iload 4 dX12_street_163 rfl ?_
  refine z_bipush 7 7 dX12_street_165 (by decide) ?_
  refine z_iadd dX12_street_167 ?_
  refine z_iload_n 1 dX12_street_168 rfl rfl ?_
  refine z_sI hf dX12_street_169  (fun d28 hf => ?_)
  refine z_aload_n 0 dX12_street_170 rfl rfl ?_
  refine z_gP (ci := 12) (k := 0) (C := RX12) (T := TX12) (N := 32) rfl inlX12 (by decide) mw_6_19 (fun _ _ _ _ h9 => h9) hf (by decide) rfl dX12_street_171  (fun v29 hf => ?_)
  refine z_iload 4 dX12_street_174 rfl ?_
  refine z_bipush 8 8 dX12_street_176 (by decide) ?_
  refine z_iadd dX12_street_178 ?_
  refine z_iload_n 2 dX12_street_179 rfl rfl ?_
  refine z_sI hf dX12_street_180  (fun d30 hf => ?_)
  refine z_aload_n 0 dX12_street_181 rfl rfl ?_
  refine z_gP (ci := 12) (k := 0) (C := RX12) (T := TX12) (N := 32) rfl inlX12 (by decide) mw_6_19 (fun _ _ _ _ h9 => h9) hf (by decide) rfl dX12_street_182  (fun v31 hf => ?_)
  refine z_iconst 1 1 dX12_street_185 (by decide) ?_
  refine z_dup2_11 dX12_street_186 rfl rfl ?_
  refine z_aI hf dX12_street_187  (fun v32 hf => ?_)
  refine z_iconst 1 1 dX12_street_188 (by decide) ?_
  refine z_iadd dX12_street_189 ?_
  refine z_sI hf dX12_street_190  (fun d33 hf => ?_)
  refine z_aload_n 0 dX12_street_191 rfl rfl ?_
  refine z_aload_n 0 dX12_street_192 rfl rfl ?_
  refine z_gP (ci := 12) (k := 0) (C := RX12) (T := TX12) (N := 32) rfl inlX12 (by decide) mw_6_19 (fun _ _ _ _ h9 => h9) hf (by decide) rfl dX12_street_193  (fun v34 hf => ?_)
  refine z_iconst 1 1 dX12_street_196 (by decide) ?_
  refine z_aI hf dX12_street_197  (fun v35 hf => ?_)
  refine z_iconst 1 1 dX12_street_198 (by decide) ?_
  refine z_isub dX12_street_199 ?_
  obtain ⟨v36, ev36, hf⟩ := ob hf
  refine z_cVi (ci := 12) (T := TX12) (N := 32) (As := [.int (v35 - (1 : Int32))]) (rest := []) (zm_X12_says ev36).2 (zm_X12_says ev36).1 (by decide) rfl (Or.inl rfl) mw_12_4 mw_12_5 mw_12_6 mw_1_5 mw_12_7 yk_X12_says (by decide) (by decide) rfl (Nat.le_of_ble_eq_true rfl) rfl dX12_street_200 ?_
  cases hf
  exact z_ireturn hE rfl dX12_street_203
set_option maxRecDepth 20000 in
theorem zm_X12_street {N : Nat} {sh : Sh} {d : Dt} {l0 : Nat} {l1 : Int32} {l2 : Int32} {l3 : Int32} {l4 : Int32} {r : Int32 × Dt} (hf : f_X12_street N sh l0 l1 l2 l3 l4 d = some r) : isO sh l0 12 ∧ ∀ (l : Launch) (G : GG), Mt l G yX12_street cX12_street 6 (some .int) 3 [.ref l0, .int l1, .int l2, .int l3, .int l4] (sh, d) (some (.int r.1)) (sh, r.2) := by
  have hf0 := hf
  unfold f_X12_street at hf
  refine ite_d hf (fun hO hf => ?_) (fun _ hf => ?_)
  · refine ⟨hO, fun l G => mt_of (Or.inl (by decide)) (Nat.le_of_ble_eq_true rfl) Le.rf (fun E hE => ?_)⟩
    show Z E yX12_street cX12_street 6 (some .int) 3 (sh, d) 0 [(0, .ref l0), (1, .int l1), (2, .int l2), (3, .int l3), (4, .int l4)] []
    refine z_aload_n 0 dX12_street_0 rfl rfl ?_
    refine z_iload_n 1 dX12_street_1 rfl rfl ?_
    obtain ⟨v1, ev1, hf⟩ := ob hf
    refine z_cVi (ci := 12) (T := TX12) (N := 32) (As := [.int l1]) (rest := []) (zm_X12_isCrossing ev1).2 (zm_X12_isCrossing ev1).1 (by decide) rfl (Or.inl rfl) mw_13_6 mw_13_7 mw_13_8 mw_1_5 mw_13_9 yk_X12_isCrossing (by decide) (by decide) rfl (Nat.le_of_ble_eq_true rfl) rfl dX12_street_2 ?_
    refine z_if_eq 32 hf dX12_street_5 (by decide) (fun hf => ?_) (fun hf => ?_)
    · refine z_lv [(0, .ref l0)] [0] rfl ?_
      exact zb_X12_street_32 hE hf
    · refine z_aload_n 0 dX12_street_8 rfl rfl ?_
      refine z_iload_n 2 dX12_street_9 rfl rfl ?_
      obtain ⟨v2, ev2, hf⟩ := ob hf
      refine z_cVi (ci := 12) (T := TX12) (N := 32) (As := [.int l2]) (rest := []) (zm_X12_isCrossing ev2).2 (zm_X12_isCrossing ev2).1 (by decide) rfl (Or.inl rfl) mw_13_6 mw_13_7 mw_13_8 mw_1_5 mw_13_9 yk_X12_isCrossing (by decide) (by decide) rfl (Nat.le_of_ble_eq_true rfl) rfl dX12_street_10 ?_
      refine z_if_eq 32 hf dX12_street_13 (by decide) (fun hf => ?_) (fun hf => ?_)
      · refine z_lv [(0, .ref l0)] [0] rfl ?_
        exact zb_X12_street_32 hE hf
      · refine z_iload_n 1 dX12_street_16 rfl rfl ?_
        refine z_iload_n 2 dX12_street_17 rfl rfl ?_
        refine z_icmp_eq 32 hf dX12_street_18 (by decide) (fun hf => ?_) (fun hf => ?_)
        · refine z_lv [(0, .ref l0)] [0] rfl ?_
          exact zb_X12_street_32 hE hf
        · refine z_iload_n 3 dX12_street_21 rfl rfl ?_
          refine z_iconst 1 1 dX12_street_22 (by decide) ?_
          refine z_sipush 10000 10000 dX12_street_23 (by decide) ?_
          obtain ⟨v3, ev3, hf⟩ := ob hf
          refine z_cTi (As := [.int l3, .int (1 : Int32), .int (10000 : Int32)]) (rest := []) (zm_X12_in ev3) (Or.inl rfl) mw_11_11 mw_11_12 mw_1_5 mw_11_13 yk_X12_in (by decide) (by decide) rfl (Nat.le_of_ble_eq_true rfl) rfl dX12_street_26 ?_
          refine z_if_ne 39 hf dX12_street_29 (by decide) (fun hf => ?_) (fun hf => ?_)
          · refine z_aload_n 0 dX12_street_39 rfl rfl ?_
            refine z_gP (ci := 12) (k := 0) (C := RX12) (T := TX12) (N := 32) rfl inlX12 (by decide) mw_6_19 (fun _ _ _ _ h9 => h9) hf (by decide) rfl dX12_street_40  (fun v4 hf => ?_)
            refine z_iconst 1 1 dX12_street_43 (by decide) ?_
            refine z_aI hf dX12_street_44  (fun v5 hf => ?_)
            refine z_sipush 150 150 dX12_street_45 (by decide) ?_
            refine z_icmp_ne 58 hf dX12_street_48 (by decide) (fun hf => ?_) (fun hf => ?_)
            · refine z_aload_n 0 dX12_street_58 rfl rfl ?_
              obtain ⟨v6, ev6, hf⟩ := ob hf
              refine z_cVv (ci := 12) (T := TX12) (N := 32) (As := []) (rest := []) (zm_X12_keeps ev6).2 (zm_X12_keeps ev6).1 (by decide) rfl (Or.inl rfl) mw_11_23 mw_12_0 mw_12_1 mw_1_5 mw_12_2 yk_X12_keeps (by decide) (by decide) rfl (Nat.le_of_ble_eq_true rfl) rfl dX12_street_59 ?_
              refine z_aload_n 0 dX12_street_62 rfl rfl ?_
              refine z_iconst 0 0 dX12_street_63 (by decide) ?_
              refine z_pI (ci := 12) (k := 10) (C := RX12) (T := TX12) (N := 32) rfl inlX12 (by decide) mw_11_10 (fun _ _ _ _ h9 => h9) tyX12 tyX12_ok nmX12 rfl hf (Or.inl (by decide)) rfl rfl rfl dX12_street_64  (fun d7 hf => ?_)
              refine z_aload_n 0 dX12_street_67 rfl rfl ?_
              refine z_aload_n 0 dX12_street_68 rfl rfl ?_
              refine z_gP (ci := 12) (k := 0) (C := RX12) (T := TX12) (N := 32) rfl inlX12 (by decide) mw_6_19 (fun _ _ _ _ h9 => h9) hf (by decide) rfl dX12_street_69  (fun v8 hf => ?_)
              refine z_iconst 1 1 dX12_street_72 (by decide) ?_
              refine z_aI hf dX12_street_73  (fun v9 hf => ?_)
              obtain ⟨v10, ev10, hf⟩ := ob hf
              refine z_cVi (ci := 12) (T := TX12) (N := 32) (As := [.int v9]) (rest := []) (zm_X12_st ev10).2 (zm_X12_st ev10).1 (by decide) rfl (Or.inl rfl) mw_13_10 mw_13_11 mw_13_12 mw_1_5 mw_13_13 yk_X12_st (by decide) (by decide) rfl (Nat.le_of_ble_eq_true rfl) rfl dX12_street_74 ?_
              refine z_istore [(5, .int v10), (0, .ref l0), (1, .int l1), (2, .int l2), (3, .int l3), (4, .int l4)] dX12_street_77 (by decide) rfl ?_
              refine z_aload_n 1 dX12_street_79 rfl rfl ?_
              refine z_gP (ci := 12) (k := 0) (C := RX12) (T := TX12) (N := 32) rfl inlX12 (by decide) mw_6_19 (fun _ _ _ _ h9 => h9) hf (by decide) rfl dX12_street_80  (fun v11 hf => ?_)
              refine z_iload 0 dX12_street_83 rfl ?_
              refine z_iconst 0 0 dX12_street_85 (by decide) ?_
              refine z_iadd dX12_street_86 ?_
              refine z_iconst 0 0 dX12_street_87 (by decide) ?_
              refine z_sI hf dX12_street_88  (fun d12 hf => ?_)
              refine z_aload_n 1 dX12_street_89 rfl rfl ?_
              refine z_gP (ci := 12) (k := 0) (C := RX12) (T := TX12) (N := 32) rfl inlX12 (by decide) mw_6_19 (fun _ _ _ _ h9 => h9) hf (by decide) rfl dX12_street_90  (fun v13 hf => ?_)
              refine z_iload 0 dX12_street_93 rfl ?_
              refine z_iconst 1 1 dX12_street_95 (by decide) ?_
              refine z_iadd dX12_street_96 ?_
              refine z_iconst 0 0 dX12_street_97 (by decide) ?_
              refine z_sI hf dX12_street_98  (fun d14 hf => ?_)
              refine z_aload_n 1 dX12_street_99 rfl rfl ?_
              refine z_gP (ci := 12) (k := 0) (C := RX12) (T := TX12) (N := 32) rfl inlX12 (by decide) mw_6_19 (fun _ _ _ _ h9 => h9) hf (by decide) rfl dX12_street_100  (fun v15 hf => ?_)
              refine z_iload 0 dX12_street_103 rfl ?_
              refine z_iconst 2 2 dX12_street_105 (by decide) ?_
              refine z_iadd dX12_street_106 ?_
              refine z_iconst 0 0 dX12_street_107 (by decide) ?_
              refine z_sI hf dX12_street_108  (fun d16 hf => ?_)
              refine z_aload_n 1 dX12_street_109 rfl rfl ?_
              refine z_gP (ci := 12) (k := 0) (C := RX12) (T := TX12) (N := 32) rfl inlX12 (by decide) mw_6_19 (fun _ _ _ _ h9 => h9) hf (by decide) rfl dX12_street_110  (fun v17 hf => ?_)
              refine z_iload 0 dX12_street_113 rfl ?_
              refine z_iconst 3 3 dX12_street_115 (by decide) ?_
              refine z_iadd dX12_street_116 ?_
              refine z_iconst 1 1 dX12_street_117 (by decide) ?_
              refine z_sI hf dX12_street_118  (fun d18 hf => ?_)
              refine z_aload_n 1 dX12_street_119 rfl rfl ?_
              refine z_gP (ci := 12) (k := 0) (C := RX12) (T := TX12) (N := 32) rfl inlX12 (by decide) mw_6_19 (fun _ _ _ _ h9 => h9) hf (by decide) rfl dX12_street_120  (fun v19 hf => ?_)
              refine z_iload 0 dX12_street_123 rfl ?_
              refine z_iconst 4 4 dX12_street_125 (by decide) ?_
              refine z_iadd dX12_street_126 ?_
              refine z_iconst 0 0 dX12_street_127 (by decide) ?_
              refine z_sI hf dX12_street_128  (fun d20 hf => ?_)
              refine z_aload_n 1 dX12_street_129 rfl rfl ?_
              refine z_gP (ci := 12) (k := 0) (C := RX12) (T := TX12) (N := 32) rfl inlX12 (by decide) mw_6_19 (fun _ _ _ _ h9 => h9) hf (by decide) rfl dX12_street_130  (fun v21 hf => ?_)
              refine z_iload 0 dX12_street_133 rfl ?_
              refine z_iconst 5 5 dX12_street_135 (by decide) ?_
              refine z_iadd dX12_street_136 ?_
              refine z_iload 5 dX12_street_137 rfl ?_
              refine z_if_eq 146 hf dX12_street_139 (by decide) (fun hf => ?_) (fun hf => ?_)
              · refine z_iconst 0 0 dX12_street_146 (by decide) ?_
                refine z_lv [(0, .ref l0), (1, .int l1), (2, .int l2), (3, .int l3), (5, .int v10)] [1, 2, 3, 4, 0] rfl ?_
                exact zb_X12_street_147 hE hf
              · refine z_iconst 1 1 dX12_street_142 (by decide) ?_
                refine z_goto 147 dX12_street_143 (by decide) ?_
                refine z_lv [(0, .ref l0), (1, .int l1), (2, .int l2), (3, .int l3), (5, .int v10)] [1, 2, 3, 4, 0] rfl ?_
                exact zb_X12_street_147 hE hf
            · refine z_aload_n 0 dX12_street_51 rfl rfl ?_
              refine z_bipush (-3) (-3) dX12_street_52 (by decide) ?_
              obtain ⟨v22, ev22, hf⟩ := ob hf
              refine z_cVi (ci := 12) (T := TX12) (N := 32) (As := [.int (-3 : Int32)]) (rest := []) (zm_X12_refuses ev22).2 (zm_X12_refuses ev22).1 (by decide) rfl (Or.inl rfl) mw_11_14 mw_11_15 mw_11_16 mw_1_5 mw_11_17 yk_X12_refuses (by decide) (by decide) rfl (Nat.le_of_ble_eq_true rfl) rfl dX12_street_54 ?_
              cases hf
              exact z_ireturn hE rfl dX12_street_57
          · refine z_lv [(0, .ref l0)] [0] rfl ?_
            exact zb_X12_street_32 hE hf
  · cases hf
set_option maxRecDepth 20000 in
theorem zm_X12_writes_ {N : Nat} {sh : Sh} {d : Dt} {l0 : Nat} {l1 : Int32} {r : Dt} (hf : f_X12_writes_ N sh l0 l1 d = some r) : isO sh l0 12 ∧ ∀ (l : Launch) (G : GG), Mt l G yX12_writes_ cX12_writes_ 2 none 1 [.ref l0, .int l1] (sh, d) none (sh, r) := by
  have hf0 := hf
  unfold f_X12_writes_ at hf
  refine ite_d hf (fun hO hf => ?_) (fun _ hf => ?_)
  · refine ⟨hO, fun l G => mt_of (Or.inl (by decide)) (Nat.le_of_ble_eq_true rfl) Le.rf (fun E hE => ?_)⟩
    show Z E yX12_writes_ cX12_writes_ 2 none 1 (sh, d) 0 [(0, .ref l0), (1, .int l1)] []
    refine z_aload_n 0 dX12_writes__0 rfl rfl ?_
    refine z_gP (ci := 12) (k := 7) (C := RX12) (T := TX12) (N := 32) rfl inlX12 (by decide) mw_6_22 (fun _ _ _ _ h9 => h9) hf (by decide) rfl dX12_writes__1  (fun v1 hf => ?_)
    refine z_aload_n 0 dX12_writes__4 rfl rfl ?_
    refine z_gI (ci := 12) (k := 8) (C := RX12) (T := TX12) (N := 32) rfl inlX12 (by decide) mw_57_3 (fun _ _ _ _ h9 => h9) hf (by decide) rfl dX12_writes__5  (fun v2 hf => ?_)
    refine z_iload_n 1 dX12_writes__8 rfl rfl ?_
    refine z_i2c dX12_writes__9 ?_
    refine z_sC hf dX12_writes__10  (fun d3 hf => ?_)
    refine z_aload_n 0 dX12_writes__11 rfl rfl ?_
    refine z_dup dX12_writes__12 rfl ?_
    refine z_gI (ci := 12) (k := 8) (C := RX12) (T := TX12) (N := 32) rfl inlX12 (by decide) mw_57_3 (fun _ _ _ _ h9 => h9) hf (by decide) rfl dX12_writes__13  (fun v4 hf => ?_)
    refine z_iconst 1 1 dX12_writes__16 (by decide) ?_
    refine z_iadd dX12_writes__17 ?_
    refine z_pI (ci := 12) (k := 8) (C := RX12) (T := TX12) (N := 32) rfl inlX12 (by decide) mw_57_3 (fun _ _ _ _ h9 => h9) tyX12 tyX12_ok nmX12 rfl hf (Or.inl (by decide)) rfl rfl rfl dX12_writes__18  (fun d5 hf => ?_)
    cases hf
    exact z_return hE rfl dX12_writes__21
  · cases hf
