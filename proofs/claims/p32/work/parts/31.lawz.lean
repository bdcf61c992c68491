/-- the script of L ints xs stands at b, below the abstract heap -/
def SX (E : EV) (b L : Nat) (xs : Nat → Int32) : Prop := match E with
  | ((p, l, e, R, s, m, args, below, meth, c, Q), G, z, w0, rv, hf) => va_X b L xs s s.heap ∧ b < s.heap.size ∧ b < z
/-- the law's end -/
def TGL (E : EV) (r : Int32 × AS) : Prop := E.2.2.2.2.2 = r.2 ∧ ∀ (pc : Nat) (lv : List (Nat × Value)), decode cL_law pc = .ok (.ireturn, 1) → Z E yL_law cL_law 4 (some .boolean) 8 r.2 pc lv [.int r.1]
theorem tgl_le {E : EV} {r : Int32 × AS} {s : AS} (hE : TGL E r) (k : Le s r.2) : Le s E.2.2.2.2.2 := by
  rw [hE.1]
  exact k
section ZL
variable {E : EV} {y : MethodName} {cc : ByteArray} {nL : Nat} {ret : Option FieldType} {lev : Nat} {h : AS} {pc : Nat} {lv : List (Nat × Value)} {rest : List Value} {b L : Nat} {xs : Nat → Int32} {ρ : Type} {r : ρ}
theorem z_slen (hS : SX E b L xs) (hdg : decode cc pc = .ok (.arraylength, 1)) (kk : Z E y cc nL ret lev h (pc + 1) lv (.int (Int32.ofNat L) :: rest)) : Z E y cc nL ret lev h pc lv (.ref b :: rest) := by
  obtain ⟨⟨p, l, e, R, s, m, args, below, meth, c, Q⟩, G, z, w0, rv, hf⟩ := E
  intro cx b1 b2 H locs cells slots ls hh h1 h2 hl
  exact va_slen cx.1 cx.2.1 hS.1 hS.2.1 (Nat.not_le.mpr hS.2.2) hh.2 hdg (kk cx b1 b2 H locs cells slots ls hh h1 h2 hl)
theorem z_sld {i : Int32} {g : Int32 → Option ρ} (hS : SX E b L xs) (hf : (sld L xs i).bind g = some r) (hdg : decode cc pc = .ok (.iaload, 1)) (kk : ∀ v, g v = some r → Z E y cc nL ret lev h (pc + 1) lv (.int v :: rest)) : Z E y cc nL ret lev h pc lv (.int i :: .ref b :: rest) := by
  obtain ⟨v, ev, hf⟩ := ob hf
  unfold sld at ev
  split at ev
  · rename_i q
    cases ev
    have kk := kk _ hf
    obtain ⟨⟨p, l, e, R, s, m, args, below, meth, c, Q⟩, G, z, w0, rv, hf9⟩ := E
    intro cx b1 b2 H locs cells slots ls hh h1 h2 hl
    exact va_sld cx.1 cx.2.1 hS.1 hS.2.1 (Nat.not_le.mpr hS.2.2) hh.2 q hdg (kk cx b1 b2 H locs cells slots ls hh h1 h2 hl)
  · cases ev
end ZL
set_option maxRecDepth 20000 in
theorem le_L_law_1475 {N L : Nat} {xs : Nat → Int32} {r : Int32 × AS}   {s : AS} (hf : f_L_law_1475 N L xs  s = some r) : Le s r.2 := by
  unfold f_L_law_1475 at hf
  cases hf
  exact Le.rf
set_option maxRecDepth 20000 in
theorem zb_L_law_1475 {N L : Nat} {xs : Nat → Int32} {b : Nat} {r : Int32 × AS} {E : EV} (hE : TGL E r) (hS : SX E b L xs)    {s : AS} (hf : f_L_law_1475 N L xs  s = some r) : Z E yL_law cL_law 4 (some .boolean) 8 s 1475 [(0, .ref b)] [] := by
  unfold f_L_law_1475 at hf
  refine z_iconst 1 1 dL_law_1475 (by decide) ?_
  cases hf
  exact hE.2 _ _ dL_law_1476
set_option maxRecDepth 20000 in
theorem le_L_law_1469 {N L : Nat} {xs : Nat → Int32} {k18 : Nat → Nat → Int32 → AS → Option (Int32 × AS)} {r : Int32 × AS} (hk18 : ∀ (l1 : Nat) (l2 : Nat) (l3 : Int32) (s : AS), k18 l1 l2 l3 s = some r → Le s r.2) {l1 : Nat} {l2 : Nat} {l3 : Int32} {s : AS} (hf : f_L_law_1469 N L xs k18 l1 l2 l3 s = some r) : Le s r.2 := by
  unfold f_L_law_1469 at hf
  exact Le.via (hk18 _ _ _ _ hf) rfl
set_option maxRecDepth 20000 in
theorem zb_L_law_1469 {N L : Nat} {xs : Nat → Int32} {b : Nat} {k18 : Nat → Nat → Int32 → AS → Option (Int32 × AS)} {r : Int32 × AS} {E : EV} (hE : TGL E r) (hS : SX E b L xs) (hk18 : ∀ (l1 : Nat) (l2 : Nat) (l3 : Int32) (s : AS), k18 l1 l2 l3 s = some r → Z E yL_law cL_law 4 (some .boolean) 8 s 18 [(1, .ref l1), (2, .ref l2), (3, .int l3), (0, .ref b)] []) (hq18 : ∀ (l1 : Nat) (l2 : Nat) (l3 : Int32) (s : AS), k18 l1 l2 l3 s = some r → Le s r.2) {l1 : Nat} {l2 : Nat} {l3 : Int32} {s : AS} (hf : f_L_law_1469 N L xs k18 l1 l2 l3 s = some r) : Z E yL_law cL_law 4 (some .boolean) 8 s 1469 [(1, .ref l1), (2, .ref l2), (3, .int l3), (0, .ref b)] [] := by
  unfold f_L_law_1469 at hf
  refine z_iinc [(3, .int (l3 + 6)), (1, .ref l1), (2, .ref l2), (0, .ref b)] 2 (l3 + 6) dL_law_1469 rfl rfl (by decide) rfl ?_
  refine z_goto 18 dL_law_1472 (by decide) ?_
  refine z_lv [(1, .ref l1), (2, .ref l2), (3, .int (l3 + 6)), (0, .ref b)] [1, 2, 0, 3] rfl ?_
  exact hk18 _ _ _ _ hf
set_option maxRecDepth 20000 in
theorem le_L_law_221 {N L : Nat} {xs : Nat → Int32} {k18 : Nat → Nat → Int32 → AS → Option (Int32 × AS)} {r : Int32 × AS} (hk18 : ∀ (l1 : Nat) (l2 : Nat) (l3 : Int32) (s : AS), k18 l1 l2 l3 s = some r → Le s r.2) {l1 : Nat} {l2 : Nat} {l3 : Int32} {t0 : Int32} {s : AS} (hf : f_L_law_221 N L xs k18 l1 l2 l3 t0 s = some r) : Le s r.2 := by
  unfold f_L_law_221 at hf
  obtain ⟨v187, -, hf⟩ := ob hf
  obtain ⟨v188, -, hf⟩ := ob hf
  exact Le.via (le_L_law_1469 hk18 hf) rfl
set_option maxRecDepth 20000 in
theorem zb_L_law_221 {N L : Nat} {xs : Nat → Int32} {b : Nat} {k18 : Nat → Nat → Int32 → AS → Option (Int32 × AS)} {r : Int32 × AS} {E : EV} (hE : TGL E r) (hS : SX E b L xs) (hk18 : ∀ (l1 : Nat) (l2 : Nat) (l3 : Int32) (s : AS), k18 l1 l2 l3 s = some r → Z E yL_law cL_law 4 (some .boolean) 8 s 18 [(1, .ref l1), (2, .ref l2), (3, .int l3), (0, .ref b)] []) (hq18 : ∀ (l1 : Nat) (l2 : Nat) (l3 : Int32) (s : AS), k18 l1 l2 l3 s = some r → Le s r.2) {l1 : Nat} {l2 : Nat} {l3 : Int32} {t0 : Int32} {s : AS} (hf : f_L_law_221 N L xs k18 l1 l2 l3 t0 s = some r) : Z E yL_law cL_law 4 (some .boolean) 8 s 221 [(1, .ref l1), (2, .ref l2), (3, .int l3), (0, .ref b)] [.int t0] := by
  unfold f_L_law_221 at hf
  refine z_pop dL_law_221 rfl ?_
  refine z_aload_n 1 dL_law_222 rfl rfl ?_
  refine z_aload_n 3 dL_law_223 rfl rfl ?_
  refine z_iload_n 2 dL_law_224 rfl rfl ?_
  refine z_iconst 1 1 dL_law_225 (by decide) ?_
  refine z_iadd dL_law_226 ?_
  refine z_sld hS hf dL_law_227 (fun v187 hf => ?_)
  obtain ⟨v188, ev188, hf⟩ := ob hf
  refine z_cVi (ci := 12) (T := TX12) (N := 32) (As := [.int v187]) (rest := []) (zm_X12_crossings ev188).2 (zm_X12_crossings ev188).1 (by decide) rfl (Or.inl rfl) mw_11_6 mw_11_7 mw_11_8 mw_1_5 mw_11_9 yk_X12_crossings (by decide) (by decide) rfl (Nat.le_of_ble_eq_true rfl) rfl dL_law_228 ?_
  refine z_pop dL_law_231 rfl ?_
  refine z_goto 1469 dL_law_232 (by decide) ?_
  exact zb_L_law_1469 hE hS hk18 hq18 hf
set_option maxRecDepth 20000 in
theorem le_L_law_212 {N L : Nat} {xs : Nat → Int32} {k18 : Nat → Nat → Int32 → AS → Option (Int32 × AS)} {r : Int32 × AS} (hk18 : ∀ (l1 : Nat) (l2 : Nat) (l3 : Int32) (s : AS), k18 l1 l2 l3 s = some r → Le s r.2) {l1 : Nat} {l2 : Nat} {l3 : Int32} {s : AS} (hf : f_L_law_212 N L xs k18 l1 l2 l3 s = some r) : Le s r.2 := by
  unfold f_L_law_212 at hf
  obtain ⟨v45, -, hf⟩ := ob hf
  obtain ⟨v46, ev46, hf⟩ := ob hf
  refine Le.of (t := (s.1, s.2)) rfl ((lm_X11_crossings ev46).tr ?_)
  exact Le.via (le_L_law_221 hk18 hf) rfl
set_option maxRecDepth 20000 in
theorem zb_L_law_212 {N L : Nat} {xs : Nat → Int32} {b : Nat} {k18 : Nat → Nat → Int32 → AS → Option (Int32 × AS)} {r : Int32 × AS} {E : EV} (hE : TGL E r) (hS : SX E b L xs) (hk18 : ∀ (l1 : Nat) (l2 : Nat) (l3 : Int32) (s : AS), k18 l1 l2 l3 s = some r → Z E yL_law cL_law 4 (some .boolean) 8 s 18 [(1, .ref l1), (2, .ref l2), (3, .int l3), (0, .ref b)] []) (hq18 : ∀ (l1 : Nat) (l2 : Nat) (l3 : Int32) (s : AS), k18 l1 l2 l3 s = some r → Le s r.2) {l1 : Nat} {l2 : Nat} {l3 : Int32} {s : AS} (hf : f_L_law_212 N L xs k18 l1 l2 l3 s = some r) : Z E yL_law cL_law 4 (some .boolean) 8 s 212 [(1, .ref l1), (2, .ref l2), (3, .int l3), (0, .ref b)] [] := by
  unfold f_L_law_212 at hf
  refine z_aload_n 0 dL_law_212 rfl rfl ?_
  refine z_aload_n 3 dL_law_213 rfl rfl ?_
  refine z_iload_n 2 dL_law_214 rfl rfl ?_
  refine z_iconst 1 1 dL_law_215 (by decide) ?_
  refine z_iadd dL_law_216 ?_
  refine z_sld hS hf dL_law_217 (fun v45 hf => ?_)
  obtain ⟨v46, ev46, hf⟩ := ob hf
  refine z_cVi (ci := 11) (T := TX11) (N := 14) (As := [.int v45]) (rest := []) (zm_X11_crossings ev46).2 (zm_X11_crossings ev46).1 (by decide) rfl (Or.inr (tgl_le hE (le_L_law_221 hq18 hf))) mw_7_17 mw_7_18 mw_7_19 mw_1_2 mw_7_20 yk_X11_crossings (by decide) (by decide) rfl (Nat.le_of_ble_eq_true rfl) rfl dL_law_218 ?_
  exact zb_L_law_221 hE hS hk18 hq18 hf
set_option maxRecDepth 20000 in
theorem le_L_law_297 {N L : Nat} {xs : Nat → Int32} {k18 : Nat → Nat → Int32 → AS → Option (Int32 × AS)} {r : Int32 × AS} (hk18 : ∀ (l1 : Nat) (l2 : Nat) (l3 : Int32) (s : AS), k18 l1 l2 l3 s = some r → Le s r.2) {l1 : Nat} {l2 : Nat} {l3 : Int32} {t0 : Nat} {t1 : Int32} {t2 : Int32} {t3 : Int32} {t4 : Int32} {s : AS} (hf : f_L_law_297 N L xs k18 l1 l2 l3 t0 t1 t2 t3 t4 s = some r) : Le s r.2 := by
  unfold f_L_law_297 at hf
  obtain ⟨v255, -, hf⟩ := ob hf
  exact Le.via (le_L_law_1469 hk18 hf) rfl
set_option maxRecDepth 20000 in
theorem zb_L_law_297 {N L : Nat} {xs : Nat → Int32} {b : Nat} {k18 : Nat → Nat → Int32 → AS → Option (Int32 × AS)} {r : Int32 × AS} {E : EV} (hE : TGL E r) (hS : SX E b L xs) (hk18 : ∀ (l1 : Nat) (l2 : Nat) (l3 : Int32) (s : AS), k18 l1 l2 l3 s = some r → Z E yL_law cL_law 4 (some .boolean) 8 s 18 [(1, .ref l1), (2, .ref l2), (3, .int l3), (0, .ref b)] []) (hq18 : ∀ (l1 : Nat) (l2 : Nat) (l3 : Int32) (s : AS), k18 l1 l2 l3 s = some r → Le s r.2) {l1 : Nat} {l2 : Nat} {l3 : Int32} {t0 : Nat} {t1 : Int32} {t2 : Int32} {t3 : Int32} {t4 : Int32} {s : AS} (hf : f_L_law_297 N L xs k18 l1 l2 l3 t0 t1 t2 t3 t4 s = some r) : Z E yL_law cL_law 4 (some .boolean) 8 s 297 [(1, .ref l1), (2, .ref l2), (3, .int l3), (0, .ref b)] [.int t4, .int t3, .int t2, .int t1, .ref t0] := by
  unfold f_L_law_297 at hf
  obtain ⟨v255, ev255, hf⟩ := ob hf
  refine z_cVi (ci := 12) (T := TX12) (N := 32) (As := [.int t1, .int t2, .int t3, .int t4]) (rest := []) (zm_X12_street ev255).2 (zm_X12_street ev255).1 (by decide) rfl (Or.inl rfl) mw_13_2 mw_13_3 mw_13_4 mw_1_5 mw_13_5 yk_X12_street (by decide) (by decide) rfl (Nat.le_of_ble_eq_true rfl) rfl dL_law_297 ?_
  refine z_pop dL_law_300 rfl ?_
  refine z_goto 1469 dL_law_301 (by decide) ?_
  exact zb_L_law_1469 hE hS hk18 hq18 hf
set_option maxRecDepth 20000 in
theorem le_L_law_267 {N L : Nat} {xs : Nat → Int32} {k18 : Nat → Nat → Int32 → AS → Option (Int32 × AS)} {r : Int32 × AS} (hk18 : ∀ (l1 : Nat) (l2 : Nat) (l3 : Int32) (s : AS), k18 l1 l2 l3 s = some r → Le s r.2) {l1 : Nat} {l2 : Nat} {l3 : Int32} {t0 : Int32} {s : AS} (hf : f_L_law_267 N L xs k18 l1 l2 l3 t0 s = some r) : Le s r.2 := by
  unfold f_L_law_267 at hf
  obtain ⟨v245, -, hf⟩ := ob hf
  obtain ⟨v246, -, hf⟩ := ob hf
  obtain ⟨v247, -, hf⟩ := ob hf
  obtain ⟨v248, -, hf⟩ := ob hf
  refine ite_c hf (fun hf => ?_) (fun hf => ?_)
  · exact Le.via (le_L_law_297 hk18 hf) rfl
  · exact Le.via (le_L_law_297 hk18 hf) rfl
set_option maxRecDepth 20000 in
theorem zb_L_law_267 {N L : Nat} {xs : Nat → Int32} {b : Nat} {k18 : Nat → Nat → Int32 → AS → Option (Int32 × AS)} {r : Int32 × AS} {E : EV} (hE : TGL E r) (hS : SX E b L xs) (hk18 : ∀ (l1 : Nat) (l2 : Nat) (l3 : Int32) (s : AS), k18 l1 l2 l3 s = some r → Z E yL_law cL_law 4 (some .boolean) 8 s 18 [(1, .ref l1), (2, .ref l2), (3, .int l3), (0, .ref b)] []) (hq18 : ∀ (l1 : Nat) (l2 : Nat) (l3 : Int32) (s : AS), k18 l1 l2 l3 s = some r → Le s r.2) {l1 : Nat} {l2 : Nat} {l3 : Int32} {t0 : Int32} {s : AS} (hf : f_L_law_267 N L xs k18 l1 l2 l3 t0 s = some r) : Z E yL_law cL_law 4 (some .boolean) 8 s 267 [(1, .ref l1), (2, .ref l2), (3, .int l3), (0, .ref b)] [.int t0] := by
  unfold f_L_law_267 at hf
  refine z_pop dL_law_267 rfl ?_
  refine z_aload_n 1 dL_law_268 rfl rfl ?_
  refine z_aload_n 3 dL_law_269 rfl rfl ?_
  refine z_iload_n 2 dL_law_270 rfl rfl ?_
  refine z_iconst 1 1 dL_law_271 (by decide) ?_
  refine z_iadd dL_law_272 ?_
  refine z_sld hS hf dL_law_273 (fun v245 hf => ?_)
  refine z_aload_n 3 dL_law_274 rfl rfl ?_
  refine z_iload_n 2 dL_law_275 rfl rfl ?_
  refine z_iconst 2 2 dL_law_276 (by decide) ?_
  refine z_iadd dL_law_277 ?_
  refine z_sld hS hf dL_law_278 (fun v246 hf => ?_)
  refine z_aload_n 3 dL_law_279 rfl rfl ?_
  refine z_iload_n 2 dL_law_280 rfl rfl ?_
  refine z_iconst 3 3 dL_law_281 (by decide) ?_
  refine z_iadd dL_law_282 ?_
  refine z_sld hS hf dL_law_283 (fun v247 hf => ?_)
  refine z_aload_n 3 dL_law_284 rfl rfl ?_
  refine z_iload_n 2 dL_law_285 rfl rfl ?_
  refine z_iconst 4 4 dL_law_286 (by decide) ?_
  refine z_iadd dL_law_287 ?_
  refine z_sld hS hf dL_law_288 (fun v248 hf => ?_)
  refine z_if_eq 296 hf dL_law_289 (by decide) (fun hf => ?_) (fun hf => ?_)
  · refine z_iconst 0 0 dL_law_296 (by decide) ?_
    exact zb_L_law_297 hE hS hk18 hq18 hf
  · refine z_iconst 1 1 dL_law_292 (by decide) ?_
    refine z_goto 297 dL_law_293 (by decide) ?_
    exact zb_L_law_297 hE hS hk18 hq18 hf
set_option maxRecDepth 20000 in
theorem le_L_law_264 {N L : Nat} {xs : Nat → Int32} {k18 : Nat → Nat → Int32 → AS → Option (Int32 × AS)} {r : Int32 × AS} (hk18 : ∀ (l1 : Nat) (l2 : Nat) (l3 : Int32) (s : AS), k18 l1 l2 l3 s = some r → Le s r.2) {l1 : Nat} {l2 : Nat} {l3 : Int32} {t0 : Nat} {t1 : Int32} {t2 : Int32} {t3 : Int32} {t4 : Int32} {s : AS} (hf : f_L_law_264 N L xs k18 l1 l2 l3 t0 t1 t2 t3 t4 s = some r) : Le s r.2 := by
  unfold f_L_law_264 at hf
  obtain ⟨v189, ev189, hf⟩ := ob hf
  refine Le.of (t := (s.1, s.2)) rfl ((lm_X11_street ev189).tr ?_)
  exact Le.via (le_L_law_267 hk18 hf) rfl
set_option maxRecDepth 20000 in
theorem zb_L_law_264 {N L : Nat} {xs : Nat → Int32} {b : Nat} {k18 : Nat → Nat → Int32 → AS → Option (Int32 × AS)} {r : Int32 × AS} {E : EV} (hE : TGL E r) (hS : SX E b L xs) (hk18 : ∀ (l1 : Nat) (l2 : Nat) (l3 : Int32) (s : AS), k18 l1 l2 l3 s = some r → Z E yL_law cL_law 4 (some .boolean) 8 s 18 [(1, .ref l1), (2, .ref l2), (3, .int l3), (0, .ref b)] []) (hq18 : ∀ (l1 : Nat) (l2 : Nat) (l3 : Int32) (s : AS), k18 l1 l2 l3 s = some r → Le s r.2) {l1 : Nat} {l2 : Nat} {l3 : Int32} {t0 : Nat} {t1 : Int32} {t2 : Int32} {t3 : Int32} {t4 : Int32} {s : AS} (hf : f_L_law_264 N L xs k18 l1 l2 l3 t0 t1 t2 t3 t4 s = some r) : Z E yL_law cL_law 4 (some .boolean) 8 s 264 [(1, .ref l1), (2, .ref l2), (3, .int l3), (0, .ref b)] [.int t4, .int t3, .int t2, .int t1, .ref t0] := by
  unfold f_L_law_264 at hf
  obtain ⟨v189, ev189, hf⟩ := ob hf
  refine z_cVi (ci := 11) (T := TX11) (N := 14) (As := [.int t1, .int t2, .int t3, .int t4]) (rest := []) (zm_X11_street ev189).2 (zm_X11_street ev189).1 (by decide) rfl (Or.inr (tgl_le hE (le_L_law_267 hq18 hf))) mw_12_8 mw_12_9 mw_12_10 mw_1_2 mw_12_11 yk_X11_street (by decide) (by decide) rfl (Nat.le_of_ble_eq_true rfl) rfl dL_law_264 ?_
  exact zb_L_law_267 hE hS hk18 hq18 hf
set_option maxRecDepth 20000 in
theorem le_L_law_235 {N L : Nat} {xs : Nat → Int32} {k18 : Nat → Nat → Int32 → AS → Option (Int32 × AS)} {r : Int32 × AS} (hk18 : ∀ (l1 : Nat) (l2 : Nat) (l3 : Int32) (s : AS), k18 l1 l2 l3 s = some r → Le s r.2) {l1 : Nat} {l2 : Nat} {l3 : Int32} {s : AS} (hf : f_L_law_235 N L xs k18 l1 l2 l3 s = some r) : Le s r.2 := by
  unfold f_L_law_235 at hf
  obtain ⟨v47, -, hf⟩ := ob hf
  obtain ⟨v48, -, hf⟩ := ob hf
  obtain ⟨v49, -, hf⟩ := ob hf
  obtain ⟨v50, -, hf⟩ := ob hf
  refine ite_c hf (fun hf => ?_) (fun hf => ?_)
  · exact Le.via (le_L_law_264 hk18 hf) rfl
  · exact Le.via (le_L_law_264 hk18 hf) rfl
set_option maxRecDepth 20000 in
theorem zb_L_law_235 {N L : Nat} {xs : Nat → Int32} {b : Nat} {k18 : Nat → Nat → Int32 → AS → Option (Int32 × AS)} {r : Int32 × AS} {E : EV} (hE : TGL E r) (hS : SX E b L xs) (hk18 : ∀ (l1 : Nat) (l2 : Nat) (l3 : Int32) (s : AS), k18 l1 l2 l3 s = some r → Z E yL_law cL_law 4 (some .boolean) 8 s 18 [(1, .ref l1), (2, .ref l2), (3, .int l3), (0, .ref b)] []) (hq18 : ∀ (l1 : Nat) (l2 : Nat) (l3 : Int32) (s : AS), k18 l1 l2 l3 s = some r → Le s r.2) {l1 : Nat} {l2 : Nat} {l3 : Int32} {s : AS} (hf : f_L_law_235 N L xs k18 l1 l2 l3 s = some r) : Z E yL_law cL_law 4 (some .boolean) 8 s 235 [(1, .ref l1), (2, .ref l2), (3, .int l3), (0, .ref b)] [] := by
  unfold f_L_law_235 at hf
  refine z_aload_n 0 dL_law_235 rfl rfl ?_
  refine z_aload_n 3 dL_law_236 rfl rfl ?_
  refine z_iload_n 2 dL_law_237 rfl rfl ?_
  refine z_iconst 1 1 dL_law_238 (by decide) ?_
  refine z_iadd dL_law_239 ?_
  refine z_sld hS hf dL_law_240 (fun v47 hf => ?_)
  refine z_aload_n 3 dL_law_241 rfl rfl ?_
  refine z_iload_n 2 dL_law_242 rfl rfl ?_
  refine z_iconst 2 2 dL_law_243 (by decide) ?_
  refine z_iadd dL_law_244 ?_
  refine z_sld hS hf dL_law_245 (fun v48 hf => ?_)
  refine z_aload_n 3 dL_law_246 rfl rfl ?_
  refine z_iload_n 2 dL_law_247 rfl rfl ?_
  refine z_iconst 3 3 dL_law_248 (by decide) ?_
  refine z_iadd dL_law_249 ?_
  refine z_sld hS hf dL_law_250 (fun v49 hf => ?_)
  refine z_aload_n 3 dL_law_251 rfl rfl ?_
  refine z_iload_n 2 dL_law_252 rfl rfl ?_
  refine z_iconst 4 4 dL_law_253 (by decide) ?_
  refine z_iadd dL_law_254 ?_
  refine z_sld hS hf dL_law_255 (fun v50 hf => ?_)
  refine z_if_eq 263 hf dL_law_256 (by decide) (fun hf => ?_) (fun hf => ?_)
  · refine z_iconst 0 0 dL_law_263 (by decide) ?_
    exact zb_L_law_264 hE hS hk18 hq18 hf
  · refine z_iconst 1 1 dL_law_259 (by decide) ?_
    refine z_goto 264 dL_law_260 (by decide) ?_
    exact zb_L_law_264 hE hS hk18 hq18 hf
set_option maxRecDepth 20000 in
theorem le_L_law_346 {N L : Nat} {xs : Nat → Int32} {k18 : Nat → Nat → Int32 → AS → Option (Int32 × AS)} {r : Int32 × AS} (hk18 : ∀ (l1 : Nat) (l2 : Nat) (l3 : Int32) (s : AS), k18 l1 l2 l3 s = some r → Le s r.2) {l1 : Nat} {l2 : Nat} {l3 : Int32} {t0 : Nat} {t1 : Int32} {t2 : Int32} {s : AS} (hf : f_L_law_346 N L xs k18 l1 l2 l3 t0 t1 t2 s = some r) : Le s r.2 := by
  unfold f_L_law_346 at hf
  obtain ⟨v256, -, hf⟩ := ob hf
  exact Le.via (le_L_law_1469 hk18 hf) rfl
set_option maxRecDepth 20000 in
theorem zb_L_law_346 {N L : Nat} {xs : Nat → Int32} {b : Nat} {k18 : Nat → Nat → Int32 → AS → Option (Int32 × AS)} {r : Int32 × AS} {E : EV} (hE : TGL E r) (hS : SX E b L xs) (hk18 : ∀ (l1 : Nat) (l2 : Nat) (l3 : Int32) (s : AS), k18 l1 l2 l3 s = some r → Z E yL_law cL_law 4 (some .boolean) 8 s 18 [(1, .ref l1), (2, .ref l2), (3, .int l3), (0, .ref b)] []) (hq18 : ∀ (l1 : Nat) (l2 : Nat) (l3 : Int32) (s : AS), k18 l1 l2 l3 s = some r → Le s r.2) {l1 : Nat} {l2 : Nat} {l3 : Int32} {t0 : Nat} {t1 : Int32} {t2 : Int32} {s : AS} (hf : f_L_law_346 N L xs k18 l1 l2 l3 t0 t1 t2 s = some r) : Z E yL_law cL_law 4 (some .boolean) 8 s 346 [(1, .ref l1), (2, .ref l2), (3, .int l3), (0, .ref b)] [.int t2, .int t1, .ref t0] := by
  unfold f_L_law_346 at hf
  obtain ⟨v256, ev256, hf⟩ := ob hf
  refine z_cVi (ci := 12) (T := TX12) (N := 32) (As := [.int t1, .int t2]) (rest := []) (zm_X12_oneWay ev256).2 (zm_X12_oneWay ev256).1 (by decide) rfl (Or.inl rfl) mw_14_3 mw_14_4 mw_14_5 mw_1_5 mw_14_6 yk_X12_oneWay (by decide) (by decide) rfl (Nat.le_of_ble_eq_true rfl) rfl dL_law_346 ?_
  refine z_pop dL_law_349 rfl ?_
  refine z_goto 1469 dL_law_350 (by decide) ?_
  exact zb_L_law_1469 hE hS hk18 hq18 hf
set_option maxRecDepth 20000 in
theorem le_L_law_326 {N L : Nat} {xs : Nat → Int32} {k18 : Nat → Nat → Int32 → AS → Option (Int32 × AS)} {r : Int32 × AS} (hk18 : ∀ (l1 : Nat) (l2 : Nat) (l3 : Int32) (s : AS), k18 l1 l2 l3 s = some r → Le s r.2) {l1 : Nat} {l2 : Nat} {l3 : Int32} {t0 : Int32} {s : AS} (hf : f_L_law_326 N L xs k18 l1 l2 l3 t0 s = some r) : Le s r.2 := by
  unfold f_L_law_326 at hf
  obtain ⟨v249, -, hf⟩ := ob hf
  obtain ⟨v250, -, hf⟩ := ob hf
  refine ite_c hf (fun hf => ?_) (fun hf => ?_)
  · exact Le.via (le_L_law_346 hk18 hf) rfl
  · exact Le.via (le_L_law_346 hk18 hf) rfl
set_option maxRecDepth 20000 in
theorem zb_L_law_326 {N L : Nat} {xs : Nat → Int32} {b : Nat} {k18 : Nat → Nat → Int32 → AS → Option (Int32 × AS)} {r : Int32 × AS} {E : EV} (hE : TGL E r) (hS : SX E b L xs) (hk18 : ∀ (l1 : Nat) (l2 : Nat) (l3 : Int32) (s : AS), k18 l1 l2 l3 s = some r → Z E yL_law cL_law 4 (some .boolean) 8 s 18 [(1, .ref l1), (2, .ref l2), (3, .int l3), (0, .ref b)] []) (hq18 : ∀ (l1 : Nat) (l2 : Nat) (l3 : Int32) (s : AS), k18 l1 l2 l3 s = some r → Le s r.2) {l1 : Nat} {l2 : Nat} {l3 : Int32} {t0 : Int32} {s : AS} (hf : f_L_law_326 N L xs k18 l1 l2 l3 t0 s = some r) : Z E yL_law cL_law 4 (some .boolean) 8 s 326 [(1, .ref l1), (2, .ref l2), (3, .int l3), (0, .ref b)] [.int t0] := by
  unfold f_L_law_326 at hf
  refine z_pop dL_law_326 rfl ?_
  refine z_aload_n 1 dL_law_327 rfl rfl ?_
  refine z_aload_n 3 dL_law_328 rfl rfl ?_
  refine z_iload_n 2 dL_law_329 rfl rfl ?_
  refine z_iconst 1 1 dL_law_330 (by decide) ?_
  refine z_iadd dL_law_331 ?_
  refine z_sld hS hf dL_law_332 (fun v249 hf => ?_)
  refine z_aload_n 3 dL_law_333 rfl rfl ?_
  refine z_iload_n 2 dL_law_334 rfl rfl ?_
  refine z_iconst 2 2 dL_law_335 (by decide) ?_
  refine z_iadd dL_law_336 ?_
  refine z_sld hS hf dL_law_337 (fun v250 hf => ?_)
  refine z_if_eq 345 hf dL_law_338 (by decide) (fun hf => ?_) (fun hf => ?_)
  · refine z_iconst 0 0 dL_law_345 (by decide) ?_
    exact zb_L_law_346 hE hS hk18 hq18 hf
  · refine z_iconst 1 1 dL_law_341 (by decide) ?_
    refine z_goto 346 dL_law_342 (by decide) ?_
    exact zb_L_law_346 hE hS hk18 hq18 hf
set_option maxRecDepth 20000 in
theorem le_L_law_323 {N L : Nat} {xs : Nat → Int32} {k18 : Nat → Nat → Int32 → AS → Option (Int32 × AS)} {r : Int32 × AS} (hk18 : ∀ (l1 : Nat) (l2 : Nat) (l3 : Int32) (s : AS), k18 l1 l2 l3 s = some r → Le s r.2) {l1 : Nat} {l2 : Nat} {l3 : Int32} {t0 : Nat} {t1 : Int32} {t2 : Int32} {s : AS} (hf : f_L_law_323 N L xs k18 l1 l2 l3 t0 t1 t2 s = some r) : Le s r.2 := by
  unfold f_L_law_323 at hf
  obtain ⟨v190, ev190, hf⟩ := ob hf
  refine Le.of (t := (s.1, s.2)) rfl ((lm_X11_oneWay ev190).tr ?_)
  exact Le.via (le_L_law_326 hk18 hf) rfl
set_option maxRecDepth 20000 in
theorem zb_L_law_323 {N L : Nat} {xs : Nat → Int32} {b : Nat} {k18 : Nat → Nat → Int32 → AS → Option (Int32 × AS)} {r : Int32 × AS} {E : EV} (hE : TGL E r) (hS : SX E b L xs) (hk18 : ∀ (l1 : Nat) (l2 : Nat) (l3 : Int32) (s : AS), k18 l1 l2 l3 s = some r → Z E yL_law cL_law 4 (some .boolean) 8 s 18 [(1, .ref l1), (2, .ref l2), (3, .int l3), (0, .ref b)] []) (hq18 : ∀ (l1 : Nat) (l2 : Nat) (l3 : Int32) (s : AS), k18 l1 l2 l3 s = some r → Le s r.2) {l1 : Nat} {l2 : Nat} {l3 : Int32} {t0 : Nat} {t1 : Int32} {t2 : Int32} {s : AS} (hf : f_L_law_323 N L xs k18 l1 l2 l3 t0 t1 t2 s = some r) : Z E yL_law cL_law 4 (some .boolean) 8 s 323 [(1, .ref l1), (2, .ref l2), (3, .int l3), (0, .ref b)] [.int t2, .int t1, .ref t0] := by
  unfold f_L_law_323 at hf
  obtain ⟨v190, ev190, hf⟩ := ob hf
  refine z_cVi (ci := 11) (T := TX11) (N := 14) (As := [.int t1, .int t2]) (rest := []) (zm_X11_oneWay ev190).2 (zm_X11_oneWay ev190).1 (by decide) rfl (Or.inr (tgl_le hE (le_L_law_326 hq18 hf))) mw_13_14 mw_13_15 mw_13_16 mw_1_2 mw_13_17 yk_X11_oneWay (by decide) (by decide) rfl (Nat.le_of_ble_eq_true rfl) rfl dL_law_323 ?_
  exact zb_L_law_326 hE hS hk18 hq18 hf
set_option maxRecDepth 20000 in
theorem le_L_law_304 {N L : Nat} {xs : Nat → Int32} {k18 : Nat → Nat → Int32 → AS → Option (Int32 × AS)} {r : Int32 × AS} (hk18 : ∀ (l1 : Nat) (l2 : Nat) (l3 : Int32) (s : AS), k18 l1 l2 l3 s = some r → Le s r.2) {l1 : Nat} {l2 : Nat} {l3 : Int32} {s : AS} (hf : f_L_law_304 N L xs k18 l1 l2 l3 s = some r) : Le s r.2 := by
  unfold f_L_law_304 at hf
  obtain ⟨v51, -, hf⟩ := ob hf
  obtain ⟨v52, -, hf⟩ := ob hf
  refine ite_c hf (fun hf => ?_) (fun hf => ?_)
  · exact Le.via (le_L_law_323 hk18 hf) rfl
  · exact Le.via (le_L_law_323 hk18 hf) rfl
set_option maxRecDepth 20000 in
theorem zb_L_law_304 {N L : Nat} {xs : Nat → Int32} {b : Nat} {k18 : Nat → Nat → Int32 → AS → Option (Int32 × AS)} {r : Int32 × AS} {E : EV} (hE : TGL E r) (hS : SX E b L xs) (hk18 : ∀ (l1 : Nat) (l2 : Nat) (l3 : Int32) (s : AS), k18 l1 l2 l3 s = some r → Z E yL_law cL_law 4 (some .boolean) 8 s 18 [(1, .ref l1), (2, .ref l2), (3, .int l3), (0, .ref b)] []) (hq18 : ∀ (l1 : Nat) (l2 : Nat) (l3 : Int32) (s : AS), k18 l1 l2 l3 s = some r → Le s r.2) {l1 : Nat} {l2 : Nat} {l3 : Int32} {s : AS} (hf : f_L_law_304 N L xs k18 l1 l2 l3 s = some r) : Z E yL_law cL_law 4 (some .boolean) 8 s 304 [(1, .ref l1), (2, .ref l2), (3, .int l3), (0, .ref b)] [] := by
  unfold f_L_law_304 at hf
  refine z_aload_n 0 dL_law_304 rfl rfl ?_
  refine z_aload_n 3 dL_law_305 rfl rfl ?_
  refine z_iload_n 2 dL_law_306 rfl rfl ?_
  refine z_iconst 1 1 dL_law_307 (by decide) ?_
  refine z_iadd dL_law_308 ?_
  refine z_sld hS hf dL_law_309 (fun v51 hf => ?_)
  refine z_aload_n 3 dL_law_310 rfl rfl ?_
  refine z_iload_n 2 dL_law_311 rfl rfl ?_
  refine z_iconst 2 2 dL_law_312 (by decide) ?_
  refine z_iadd dL_law_313 ?_
  refine z_sld hS hf dL_law_314 (fun v52 hf => ?_)
  refine z_if_eq 322 hf dL_law_315 (by decide) (fun hf => ?_) (fun hf => ?_)
  · refine z_iconst 0 0 dL_law_322 (by decide) ?_
    exact zb_L_law_323 hE hS hk18 hq18 hf
  · refine z_iconst 1 1 dL_law_318 (by decide) ?_
    refine z_goto 323 dL_law_319 (by decide) ?_
    exact zb_L_law_323 hE hS hk18 hq18 hf
set_option maxRecDepth 20000 in
theorem le_L_law_395 {N L : Nat} {xs : Nat → Int32} {k18 : Nat → Nat → Int32 → AS → Option (Int32 × AS)} {r : Int32 × AS} (hk18 : ∀ (l1 : Nat) (l2 : Nat) (l3 : Int32) (s : AS), k18 l1 l2 l3 s = some r → Le s r.2) {l1 : Nat} {l2 : Nat} {l3 : Int32} {t0 : Nat} {t1 : Int32} {t2 : Int32} {s : AS} (hf : f_L_law_395 N L xs k18 l1 l2 l3 t0 t1 t2 s = some r) : Le s r.2 := by
  unfold f_L_law_395 at hf
  obtain ⟨v257, -, hf⟩ := ob hf
  exact Le.via (le_L_law_1469 hk18 hf) rfl
set_option maxRecDepth 20000 in
theorem zb_L_law_395 {N L : Nat} {xs : Nat → Int32} {b : Nat} {k18 : Nat → Nat → Int32 → AS → Option (Int32 × AS)} {r : Int32 × AS} {E : EV} (hE : TGL E r) (hS : SX E b L xs) (hk18 : ∀ (l1 : Nat) (l2 : Nat) (l3 : Int32) (s : AS), k18 l1 l2 l3 s = some r → Z E yL_law cL_law 4 (some .boolean) 8 s 18 [(1, .ref l1), (2, .ref l2), (3, .int l3), (0, .ref b)] []) (hq18 : ∀ (l1 : Nat) (l2 : Nat) (l3 : Int32) (s : AS), k18 l1 l2 l3 s = some r → Le s r.2) {l1 : Nat} {l2 : Nat} {l3 : Int32} {t0 : Nat} {t1 : Int32} {t2 : Int32} {s : AS} (hf : f_L_law_395 N L xs k18 l1 l2 l3 t0 t1 t2 s = some r) : Z E yL_law cL_law 4 (some .boolean) 8 s 395 [(1, .ref l1), (2, .ref l2), (3, .int l3), (0, .ref b)] [.int t2, .int t1, .ref t0] := by
  unfold f_L_law_395 at hf
  obtain ⟨v257, ev257, hf⟩ := ob hf
  refine z_cVi (ci := 12) (T := TX12) (N := 32) (As := [.int t1, .int t2]) (rest := []) (zm_X12_shut ev257).2 (zm_X12_shut ev257).1 (by decide) rfl (Or.inl rfl) mw_14_19 mw_14_20 mw_14_21 mw_1_5 mw_14_22 yk_X12_shut (by decide) (by decide) rfl (Nat.le_of_ble_eq_true rfl) rfl dL_law_395 ?_
  refine z_pop dL_law_398 rfl ?_
  refine z_goto 1469 dL_law_399 (by decide) ?_
  exact zb_L_law_1469 hE hS hk18 hq18 hf
set_option maxRecDepth 20000 in
theorem le_L_law_375 {N L : Nat} {xs : Nat → Int32} {k18 : Nat → Nat → Int32 → AS → Option (Int32 × AS)} {r : Int32 × AS} (hk18 : ∀ (l1 : Nat) (l2 : Nat) (l3 : Int32) (s : AS), k18 l1 l2 l3 s = some r → Le s r.2) {l1 : Nat} {l2 : Nat} {l3 : Int32} {t0 : Int32} {s : AS} (hf : f_L_law_375 N L xs k18 l1 l2 l3 t0 s = some r) : Le s r.2 := by
  unfold f_L_law_375 at hf
  obtain ⟨v251, -, hf⟩ := ob hf
  obtain ⟨v252, -, hf⟩ := ob hf
  refine ite_c hf (fun hf => ?_) (fun hf => ?_)
  · exact Le.via (le_L_law_395 hk18 hf) rfl
  · exact Le.via (le_L_law_395 hk18 hf) rfl
set_option maxRecDepth 20000 in
theorem zb_L_law_375 {N L : Nat} {xs : Nat → Int32} {b : Nat} {k18 : Nat → Nat → Int32 → AS → Option (Int32 × AS)} {r : Int32 × AS} {E : EV} (hE : TGL E r) (hS : SX E b L xs) (hk18 : ∀ (l1 : Nat) (l2 : Nat) (l3 : Int32) (s : AS), k18 l1 l2 l3 s = some r → Z E yL_law cL_law 4 (some .boolean) 8 s 18 [(1, .ref l1), (2, .ref l2), (3, .int l3), (0, .ref b)] []) (hq18 : ∀ (l1 : Nat) (l2 : Nat) (l3 : Int32) (s : AS), k18 l1 l2 l3 s = some r → Le s r.2) {l1 : Nat} {l2 : Nat} {l3 : Int32} {t0 : Int32} {s : AS} (hf : f_L_law_375 N L xs k18 l1 l2 l3 t0 s = some r) : Z E yL_law cL_law 4 (some .boolean) 8 s 375 [(1, .ref l1), (2, .ref l2), (3, .int l3), (0, .ref b)] [.int t0] := by
  unfold f_L_law_375 at hf
  refine z_pop dL_law_375 rfl ?_
  refine z_aload_n 1 dL_law_376 rfl rfl ?_
  refine z_aload_n 3 dL_law_377 rfl rfl ?_
  refine z_iload_n 2 dL_law_378 rfl rfl ?_
  refine z_iconst 1 1 dL_law_379 (by decide) ?_
  refine z_iadd dL_law_380 ?_
  refine z_sld hS hf dL_law_381 (fun v251 hf => ?_)
  refine z_aload_n 3 dL_law_382 rfl rfl ?_
  refine z_iload_n 2 dL_law_383 rfl rfl ?_
  refine z_iconst 2 2 dL_law_384 (by decide) ?_
  refine z_iadd dL_law_385 ?_
  refine z_sld hS hf dL_law_386 (fun v252 hf => ?_)
  refine z_if_eq 394 hf dL_law_387 (by decide) (fun hf => ?_) (fun hf => ?_)
  · refine z_iconst 0 0 dL_law_394 (by decide) ?_
    exact zb_L_law_395 hE hS hk18 hq18 hf
  · refine z_iconst 1 1 dL_law_390 (by decide) ?_
    refine z_goto 395 dL_law_391 (by decide) ?_
    exact zb_L_law_395 hE hS hk18 hq18 hf
set_option maxRecDepth 20000 in
theorem le_L_law_372 {N L : Nat} {xs : Nat → Int32} {k18 : Nat → Nat → Int32 → AS → Option (Int32 × AS)} {r : Int32 × AS} (hk18 : ∀ (l1 : Nat) (l2 : Nat) (l3 : Int32) (s : AS), k18 l1 l2 l3 s = some r → Le s r.2) {l1 : Nat} {l2 : Nat} {l3 : Int32} {t0 : Nat} {t1 : Int32} {t2 : Int32} {s : AS} (hf : f_L_law_372 N L xs k18 l1 l2 l3 t0 t1 t2 s = some r) : Le s r.2 := by
  unfold f_L_law_372 at hf
  obtain ⟨v191, ev191, hf⟩ := ob hf
  refine Le.of (t := (s.1, s.2)) rfl ((lm_X11_shut ev191).tr ?_)
  exact Le.via (le_L_law_375 hk18 hf) rfl
set_option maxRecDepth 20000 in
theorem zb_L_law_372 {N L : Nat} {xs : Nat → Int32} {b : Nat} {k18 : Nat → Nat → Int32 → AS → Option (Int32 × AS)} {r : Int32 × AS} {E : EV} (hE : TGL E r) (hS : SX E b L xs) (hk18 : ∀ (l1 : Nat) (l2 : Nat) (l3 : Int32) (s : AS), k18 l1 l2 l3 s = some r → Z E yL_law cL_law 4 (some .boolean) 8 s 18 [(1, .ref l1), (2, .ref l2), (3, .int l3), (0, .ref b)] []) (hq18 : ∀ (l1 : Nat) (l2 : Nat) (l3 : Int32) (s : AS), k18 l1 l2 l3 s = some r → Le s r.2) {l1 : Nat} {l2 : Nat} {l3 : Int32} {t0 : Nat} {t1 : Int32} {t2 : Int32} {s : AS} (hf : f_L_law_372 N L xs k18 l1 l2 l3 t0 t1 t2 s = some r) : Z E yL_law cL_law 4 (some .boolean) 8 s 372 [(1, .ref l1), (2, .ref l2), (3, .int l3), (0, .ref b)] [.int t2, .int t1, .ref t0] := by
  unfold f_L_law_372 at hf
  obtain ⟨v191, ev191, hf⟩ := ob hf
  refine z_cVi (ci := 11) (T := TX11) (N := 14) (As := [.int t1, .int t2]) (rest := []) (zm_X11_shut ev191).2 (zm_X11_shut ev191).1 (by decide) rfl (Or.inr (tgl_le hE (le_L_law_375 hq18 hf))) mw_14_15 mw_14_16 mw_14_17 mw_1_2 mw_14_18 yk_X11_shut (by decide) (by decide) rfl (Nat.le_of_ble_eq_true rfl) rfl dL_law_372 ?_
  exact zb_L_law_375 hE hS hk18 hq18 hf
set_option maxRecDepth 20000 in
theorem le_L_law_353 {N L : Nat} {xs : Nat → Int32} {k18 : Nat → Nat → Int32 → AS → Option (Int32 × AS)} {r : Int32 × AS} (hk18 : ∀ (l1 : Nat) (l2 : Nat) (l3 : Int32) (s : AS), k18 l1 l2 l3 s = some r → Le s r.2) {l1 : Nat} {l2 : Nat} {l3 : Int32} {s : AS} (hf : f_L_law_353 N L xs k18 l1 l2 l3 s = some r) : Le s r.2 := by
  unfold f_L_law_353 at hf
  obtain ⟨v53, -, hf⟩ := ob hf
  obtain ⟨v54, -, hf⟩ := ob hf
  refine ite_c hf (fun hf => ?_) (fun hf => ?_)
  · exact Le.via (le_L_law_372 hk18 hf) rfl
  · exact Le.via (le_L_law_372 hk18 hf) rfl
set_option maxRecDepth 20000 in
theorem zb_L_law_353 {N L : Nat} {xs : Nat → Int32} {b : Nat} {k18 : Nat → Nat → Int32 → AS → Option (Int32 × AS)} {r : Int32 × AS} {E : EV} (hE : TGL E r) (hS : SX E b L xs) (hk18 : ∀ (l1 : Nat) (l2 : Nat) (l3 : Int32) (s : AS), k18 l1 l2 l3 s = some r → Z E yL_law cL_law 4 (some .boolean) 8 s 18 [(1, .ref l1), (2, .ref l2), (3, .int l3), (0, .ref b)] []) (hq18 : ∀ (l1 : Nat) (l2 : Nat) (l3 : Int32) (s : AS), k18 l1 l2 l3 s = some r → Le s r.2) {l1 : Nat} {l2 : Nat} {l3 : Int32} {s : AS} (hf : f_L_law_353 N L xs k18 l1 l2 l3 s = some r) : Z E yL_law cL_law 4 (some .boolean) 8 s 353 [(1, .ref l1), (2, .ref l2), (3, .int l3), (0, .ref b)] [] := by
  unfold f_L_law_353 at hf
  refine z_aload_n 0 dL_law_353 rfl rfl ?_
  refine z_aload_n 3 dL_law_354 rfl rfl ?_
  refine z_iload_n 2 dL_law_355 rfl rfl ?_
  refine z_iconst 1 1 dL_law_356 (by decide) ?_
  refine z_iadd dL_law_357 ?_
  refine z_sld hS hf dL_law_358 (fun v53 hf => ?_)
  refine z_aload_n 3 dL_law_359 rfl rfl ?_
  refine z_iload_n 2 dL_law_360 rfl rfl ?_
  refine z_iconst 2 2 dL_law_361 (by decide) ?_
  refine z_iadd dL_law_362 ?_
  refine z_sld hS hf dL_law_363 (fun v54 hf => ?_)
  refine z_if_eq 371 hf dL_law_364 (by decide) (fun hf => ?_) (fun hf => ?_)
  · refine z_iconst 0 0 dL_law_371 (by decide) ?_
    exact zb_L_law_372 hE hS hk18 hq18 hf
  · refine z_iconst 1 1 dL_law_367 (by decide) ?_
    refine z_goto 372 dL_law_368 (by decide) ?_
    exact zb_L_law_372 hE hS hk18 hq18 hf
set_option maxRecDepth 20000 in
theorem le_L_law_416 {N L : Nat} {xs : Nat → Int32} {k18 : Nat → Nat → Int32 → AS → Option (Int32 × AS)} {r : Int32 × AS} (hk18 : ∀ (l1 : Nat) (l2 : Nat) (l3 : Int32) (s : AS), k18 l1 l2 l3 s = some r → Le s r.2) {l1 : Nat} {l2 : Nat} {l3 : Int32} {t0 : Int32} {s : AS} (hf : f_L_law_416 N L xs k18 l1 l2 l3 t0 s = some r) : Le s r.2 := by
  unfold f_L_law_416 at hf
  obtain ⟨v192, -, hf⟩ := ob hf
  obtain ⟨v193, -, hf⟩ := ob hf
  obtain ⟨v194, -, hf⟩ := ob hf
  exact Le.via (le_L_law_1469 hk18 hf) rfl
set_option maxRecDepth 20000 in
theorem zb_L_law_416 {N L : Nat} {xs : Nat → Int32} {b : Nat} {k18 : Nat → Nat → Int32 → AS → Option (Int32 × AS)} {r : Int32 × AS} {E : EV} (hE : TGL E r) (hS : SX E b L xs) (hk18 : ∀ (l1 : Nat) (l2 : Nat) (l3 : Int32) (s : AS), k18 l1 l2 l3 s = some r → Z E yL_law cL_law 4 (some .boolean) 8 s 18 [(1, .ref l1), (2, .ref l2), (3, .int l3), (0, .ref b)] []) (hq18 : ∀ (l1 : Nat) (l2 : Nat) (l3 : Int32) (s : AS), k18 l1 l2 l3 s = some r → Le s r.2) {l1 : Nat} {l2 : Nat} {l3 : Int32} {t0 : Int32} {s : AS} (hf : f_L_law_416 N L xs k18 l1 l2 l3 t0 s = some r) : Z E yL_law cL_law 4 (some .boolean) 8 s 416 [(1, .ref l1), (2, .ref l2), (3, .int l3), (0, .ref b)] [.int t0] := by
  unfold f_L_law_416 at hf
  refine z_pop dL_law_416 rfl ?_
  refine z_aload_n 1 dL_law_417 rfl rfl ?_
  refine z_aload_n 3 dL_law_418 rfl rfl ?_
  refine z_iload_n 2 dL_law_419 rfl rfl ?_
  refine z_iconst 1 1 dL_law_420 (by decide) ?_
  refine z_iadd dL_law_421 ?_
  refine z_sld hS hf dL_law_422 (fun v192 hf => ?_)
  refine z_aload_n 3 dL_law_423 rfl rfl ?_
  refine z_iload_n 2 dL_law_424 rfl rfl ?_
  refine z_iconst 2 2 dL_law_425 (by decide) ?_
  refine z_iadd dL_law_426 ?_
  refine z_sld hS hf dL_law_427 (fun v193 hf => ?_)
  obtain ⟨v194, ev194, hf⟩ := ob hf
  refine z_cVi (ci := 12) (T := TX12) (N := 32) (As := [.int v192, .int v193]) (rest := []) (zm_X12_sides ev194).2 (zm_X12_sides ev194).1 (by decide) rfl (Or.inl rfl) mw_15_3 mw_15_4 mw_15_5 mw_1_5 mw_15_6 yk_X12_sides (by decide) (by decide) rfl (Nat.le_of_ble_eq_true rfl) rfl dL_law_428 ?_
  refine z_pop dL_law_431 rfl ?_
  refine z_goto 1469 dL_law_432 (by decide) ?_
  exact zb_L_law_1469 hE hS hk18 hq18 hf
set_option maxRecDepth 20000 in
theorem le_L_law_402 {N L : Nat} {xs : Nat → Int32} {k18 : Nat → Nat → Int32 → AS → Option (Int32 × AS)} {r : Int32 × AS} (hk18 : ∀ (l1 : Nat) (l2 : Nat) (l3 : Int32) (s : AS), k18 l1 l2 l3 s = some r → Le s r.2) {l1 : Nat} {l2 : Nat} {l3 : Int32} {s : AS} (hf : f_L_law_402 N L xs k18 l1 l2 l3 s = some r) : Le s r.2 := by
  unfold f_L_law_402 at hf
  obtain ⟨v55, -, hf⟩ := ob hf
  obtain ⟨v56, -, hf⟩ := ob hf
  obtain ⟨v57, ev57, hf⟩ := ob hf
  refine Le.of (t := (s.1, s.2)) rfl ((lm_X11_sides ev57).tr ?_)
  exact Le.via (le_L_law_416 hk18 hf) rfl
set_option maxRecDepth 20000 in
theorem zb_L_law_402 {N L : Nat} {xs : Nat → Int32} {b : Nat} {k18 : Nat → Nat → Int32 → AS → Option (Int32 × AS)} {r : Int32 × AS} {E : EV} (hE : TGL E r) (hS : SX E b L xs) (hk18 : ∀ (l1 : Nat) (l2 : Nat) (l3 : Int32) (s : AS), k18 l1 l2 l3 s = some r → Z E yL_law cL_law 4 (some .boolean) 8 s 18 [(1, .ref l1), (2, .ref l2), (3, .int l3), (0, .ref b)] []) (hq18 : ∀ (l1 : Nat) (l2 : Nat) (l3 : Int32) (s : AS), k18 l1 l2 l3 s = some r → Le s r.2) {l1 : Nat} {l2 : Nat} {l3 : Int32} {s : AS} (hf : f_L_law_402 N L xs k18 l1 l2 l3 s = some r) : Z E yL_law cL_law 4 (some .boolean) 8 s 402 [(1, .ref l1), (2, .ref l2), (3, .int l3), (0, .ref b)] [] := by
  unfold f_L_law_402 at hf
  refine z_aload_n 0 dL_law_402 rfl rfl ?_
  refine z_aload_n 3 dL_law_403 rfl rfl ?_
  refine z_iload_n 2 dL_law_404 rfl rfl ?_
  refine z_iconst 1 1 dL_law_405 (by decide) ?_
  refine z_iadd dL_law_406 ?_
  refine z_sld hS hf dL_law_407 (fun v55 hf => ?_)
  refine z_aload_n 3 dL_law_408 rfl rfl ?_
  refine z_iload_n 2 dL_law_409 rfl rfl ?_
  refine z_iconst 2 2 dL_law_410 (by decide) ?_
  refine z_iadd dL_law_411 ?_
  refine z_sld hS hf dL_law_412 (fun v56 hf => ?_)
  obtain ⟨v57, ev57, hf⟩ := ob hf
  refine z_cVi (ci := 11) (T := TX11) (N := 14) (As := [.int v55, .int v56]) (rest := []) (zm_X11_sides ev57).2 (zm_X11_sides ev57).1 (by decide) rfl (Or.inr (tgl_le hE (le_L_law_416 hq18 hf))) mw_14_23 mw_15_0 mw_15_1 mw_1_2 mw_15_2 yk_X11_sides (by decide) (by decide) rfl (Nat.le_of_ble_eq_true rfl) rfl dL_law_413 ?_
  exact zb_L_law_416 hE hS hk18 hq18 hf
set_option maxRecDepth 20000 in
theorem le_L_law_435 {N L : Nat} {xs : Nat → Int32} {k18 : Nat → Nat → Int32 → AS → Option (Int32 × AS)} {r : Int32 × AS} (hk18 : ∀ (l1 : Nat) (l2 : Nat) (l3 : Int32) (s : AS), k18 l1 l2 l3 s = some r → Le s r.2) {l1 : Nat} {l2 : Nat} {l3 : Int32} {s : AS} (hf : f_L_law_435 N L xs k18 l1 l2 l3 s = some r) : Le s r.2 := by
  unfold f_L_law_435 at hf
  obtain ⟨v58, -, hf⟩ := ob hf
  obtain ⟨v59, -, hf⟩ := ob hf
  obtain ⟨v60, -, hf⟩ := ob hf
  obtain ⟨v61, -, hf⟩ := ob hf
  obtain ⟨v62, -, hf⟩ := ob hf
  obtain ⟨v63, -, hf⟩ := ob hf
  exact Le.via (le_L_law_1469 hk18 hf) rfl
set_option maxRecDepth 20000 in
theorem zb_L_law_435 {N L : Nat} {xs : Nat → Int32} {b : Nat} {k18 : Nat → Nat → Int32 → AS → Option (Int32 × AS)} {r : Int32 × AS} {E : EV} (hE : TGL E r) (hS : SX E b L xs) (hk18 : ∀ (l1 : Nat) (l2 : Nat) (l3 : Int32) (s : AS), k18 l1 l2 l3 s = some r → Z E yL_law cL_law 4 (some .boolean) 8 s 18 [(1, .ref l1), (2, .ref l2), (3, .int l3), (0, .ref b)] []) (hq18 : ∀ (l1 : Nat) (l2 : Nat) (l3 : Int32) (s : AS), k18 l1 l2 l3 s = some r → Le s r.2) {l1 : Nat} {l2 : Nat} {l3 : Int32} {s : AS} (hf : f_L_law_435 N L xs k18 l1 l2 l3 s = some r) : Z E yL_law cL_law 4 (some .boolean) 8 s 435 [(1, .ref l1), (2, .ref l2), (3, .int l3), (0, .ref b)] [] := by
  unfold f_L_law_435 at hf
  refine z_aload_n 0 dL_law_435 rfl rfl ?_
  refine z_aload_n 3 dL_law_436 rfl rfl ?_
  refine z_iload_n 2 dL_law_437 rfl rfl ?_
  refine z_iconst 1 1 dL_law_438 (by decide) ?_
  refine z_iadd dL_law_439 ?_
  refine z_sld hS hf dL_law_440 (fun v58 hf => ?_)
  refine z_aload_n 3 dL_law_441 rfl rfl ?_
  refine z_iload_n 2 dL_law_442 rfl rfl ?_
  refine z_iconst 2 2 dL_law_443 (by decide) ?_
  refine z_iadd dL_law_444 ?_
  refine z_sld hS hf dL_law_445 (fun v59 hf => ?_)
  obtain ⟨v60, ev60, hf⟩ := ob hf
  refine z_cVi (ci := 11) (T := TX11) (N := 14) (As := [.int v58, .int v59]) (rest := []) (zm_X11_told ev60).2 (zm_X11_told ev60).1 (by decide) rfl (Or.inl rfl) mw_15_7 mw_15_8 mw_15_9 mw_1_2 mw_15_10 yk_X11_told (by decide) (by decide) rfl (Nat.le_of_ble_eq_true rfl) rfl dL_law_446 ?_
  refine z_pop dL_law_449 rfl ?_
  refine z_aload_n 1 dL_law_450 rfl rfl ?_
  refine z_aload_n 3 dL_law_451 rfl rfl ?_
  refine z_iload_n 2 dL_law_452 rfl rfl ?_
  refine z_iconst 1 1 dL_law_453 (by decide) ?_
  refine z_iadd dL_law_454 ?_
  refine z_sld hS hf dL_law_455 (fun v61 hf => ?_)
  refine z_aload_n 3 dL_law_456 rfl rfl ?_
  refine z_iload_n 2 dL_law_457 rfl rfl ?_
  refine z_iconst 2 2 dL_law_458 (by decide) ?_
  refine z_iadd dL_law_459 ?_
  refine z_sld hS hf dL_law_460 (fun v62 hf => ?_)
  obtain ⟨v63, ev63, hf⟩ := ob hf
  refine z_cVi (ci := 12) (T := TX12) (N := 32) (As := [.int v61, .int v62]) (rest := []) (zm_X12_told ev63).2 (zm_X12_told ev63).1 (by decide) rfl (Or.inl rfl) mw_15_11 mw_15_12 mw_15_13 mw_1_5 mw_15_14 yk_X12_told (by decide) (by decide) rfl (Nat.le_of_ble_eq_true rfl) rfl dL_law_461 ?_
  refine z_pop dL_law_464 rfl ?_
  refine z_goto 1469 dL_law_465 (by decide) ?_
  exact zb_L_law_1469 hE hS hk18 hq18 hf
set_option maxRecDepth 20000 in
theorem le_L_law_468 {N L : Nat} {xs : Nat → Int32} {k18 : Nat → Nat → Int32 → AS → Option (Int32 × AS)} {r : Int32 × AS} (hk18 : ∀ (l1 : Nat) (l2 : Nat) (l3 : Int32) (s : AS), k18 l1 l2 l3 s = some r → Le s r.2) {l1 : Nat} {l2 : Nat} {l3 : Int32} {s : AS} (hf : f_L_law_468 N L xs k18 l1 l2 l3 s = some r) : Le s r.2 := by
  unfold f_L_law_468 at hf
  obtain ⟨v64, -, hf⟩ := ob hf
  obtain ⟨v65, -, hf⟩ := ob hf
  obtain ⟨v66, -, hf⟩ := ob hf
  obtain ⟨v67, -, hf⟩ := ob hf
  obtain ⟨v68, -, hf⟩ := ob hf
  obtain ⟨v69, -, hf⟩ := ob hf
  exact Le.via (le_L_law_1469 hk18 hf) rfl
set_option maxRecDepth 20000 in
theorem zb_L_law_468 {N L : Nat} {xs : Nat → Int32} {b : Nat} {k18 : Nat → Nat → Int32 → AS → Option (Int32 × AS)} {r : Int32 × AS} {E : EV} (hE : TGL E r) (hS : SX E b L xs) (hk18 : ∀ (l1 : Nat) (l2 : Nat) (l3 : Int32) (s : AS), k18 l1 l2 l3 s = some r → Z E yL_law cL_law 4 (some .boolean) 8 s 18 [(1, .ref l1), (2, .ref l2), (3, .int l3), (0, .ref b)] []) (hq18 : ∀ (l1 : Nat) (l2 : Nat) (l3 : Int32) (s : AS), k18 l1 l2 l3 s = some r → Le s r.2) {l1 : Nat} {l2 : Nat} {l3 : Int32} {s : AS} (hf : f_L_law_468 N L xs k18 l1 l2 l3 s = some r) : Z E yL_law cL_law 4 (some .boolean) 8 s 468 [(1, .ref l1), (2, .ref l2), (3, .int l3), (0, .ref b)] [] := by
  unfold f_L_law_468 at hf
  refine z_aload_n 0 dL_law_468 rfl rfl ?_
  refine z_aload_n 3 dL_law_469 rfl rfl ?_
  refine z_iload_n 2 dL_law_470 rfl rfl ?_
  refine z_iconst 1 1 dL_law_471 (by decide) ?_
  refine z_iadd dL_law_472 ?_
  refine z_sld hS hf dL_law_473 (fun v64 hf => ?_)
  refine z_aload_n 3 dL_law_474 rfl rfl ?_
  refine z_iload_n 2 dL_law_475 rfl rfl ?_
  refine z_iconst 2 2 dL_law_476 (by decide) ?_
  refine z_iadd dL_law_477 ?_
  refine z_sld hS hf dL_law_478 (fun v65 hf => ?_)
  obtain ⟨v66, ev66, hf⟩ := ob hf
  refine z_cVi (ci := 11) (T := TX11) (N := 14) (As := [.int v64, .int v65]) (rest := []) (zm_X11_way ev66).2 (zm_X11_way ev66).1 (by decide) rfl (Or.inl rfl) mw_15_15 mw_15_16 mw_15_17 mw_1_2 mw_15_18 yk_X11_way (by decide) (by decide) rfl (Nat.le_of_ble_eq_true rfl) rfl dL_law_479 ?_
  refine z_pop dL_law_482 rfl ?_
  refine z_aload_n 1 dL_law_483 rfl rfl ?_
  refine z_aload_n 3 dL_law_484 rfl rfl ?_
  refine z_iload_n 2 dL_law_485 rfl rfl ?_
  refine z_iconst 1 1 dL_law_486 (by decide) ?_
  refine z_iadd dL_law_487 ?_
  refine z_sld hS hf dL_law_488 (fun v67 hf => ?_)
  refine z_aload_n 3 dL_law_489 rfl rfl ?_
  refine z_iload_n 2 dL_law_490 rfl rfl ?_
  refine z_iconst 2 2 dL_law_491 (by decide) ?_
  refine z_iadd dL_law_492 ?_
  refine z_sld hS hf dL_law_493 (fun v68 hf => ?_)
  obtain ⟨v69, ev69, hf⟩ := ob hf
  refine z_cVi (ci := 12) (T := TX12) (N := 32) (As := [.int v67, .int v68]) (rest := []) (zm_X12_way ev69).2 (zm_X12_way ev69).1 (by decide) rfl (Or.inl rfl) mw_17_15 mw_17_16 mw_17_17 mw_1_5 mw_17_18 yk_X12_way (by decide) (by decide) rfl (Nat.le_of_ble_eq_true rfl) rfl dL_law_494 ?_
  refine z_pop dL_law_497 rfl ?_
  refine z_goto 1469 dL_law_498 (by decide) ?_
  exact zb_L_law_1469 hE hS hk18 hq18 hf
set_option maxRecDepth 20000 in
theorem le_L_law_501 {N L : Nat} {xs : Nat → Int32} {k18 : Nat → Nat → Int32 → AS → Option (Int32 × AS)} {r : Int32 × AS} (hk18 : ∀ (l1 : Nat) (l2 : Nat) (l3 : Int32) (s : AS), k18 l1 l2 l3 s = some r → Le s r.2) {l1 : Nat} {l2 : Nat} {l3 : Int32} {s : AS} (hf : f_L_law_501 N L xs k18 l1 l2 l3 s = some r) : Le s r.2 := by
  unfold f_L_law_501 at hf
  obtain ⟨v70, -, hf⟩ := ob hf
  obtain ⟨v71, -, hf⟩ := ob hf
  obtain ⟨v72, -, hf⟩ := ob hf
  obtain ⟨v73, -, hf⟩ := ob hf
  obtain ⟨v74, -, hf⟩ := ob hf
  obtain ⟨v75, -, hf⟩ := ob hf
  obtain ⟨v76, -, hf⟩ := ob hf
  obtain ⟨v77, -, hf⟩ := ob hf
  exact Le.via (le_L_law_1469 hk18 hf) rfl
set_option maxRecDepth 20000 in
theorem zb_L_law_501 {N L : Nat} {xs : Nat → Int32} {b : Nat} {k18 : Nat → Nat → Int32 → AS → Option (Int32 × AS)} {r : Int32 × AS} {E : EV} (hE : TGL E r) (hS : SX E b L xs) (hk18 : ∀ (l1 : Nat) (l2 : Nat) (l3 : Int32) (s : AS), k18 l1 l2 l3 s = some r → Z E yL_law cL_law 4 (some .boolean) 8 s 18 [(1, .ref l1), (2, .ref l2), (3, .int l3), (0, .ref b)] []) (hq18 : ∀ (l1 : Nat) (l2 : Nat) (l3 : Int32) (s : AS), k18 l1 l2 l3 s = some r → Le s r.2) {l1 : Nat} {l2 : Nat} {l3 : Int32} {s : AS} (hf : f_L_law_501 N L xs k18 l1 l2 l3 s = some r) : Z E yL_law cL_law 4 (some .boolean) 8 s 501 [(1, .ref l1), (2, .ref l2), (3, .int l3), (0, .ref b)] [] := by
  unfold f_L_law_501 at hf
  refine z_aload_n 0 dL_law_501 rfl rfl ?_
  refine z_aload_n 3 dL_law_502 rfl rfl ?_
  refine z_iload_n 2 dL_law_503 rfl rfl ?_
  refine z_iconst 1 1 dL_law_504 (by decide) ?_
  refine z_iadd dL_law_505 ?_
  refine z_sld hS hf dL_law_506 (fun v70 hf => ?_)
  refine z_aload_n 3 dL_law_507 rfl rfl ?_
  refine z_iload_n 2 dL_law_508 rfl rfl ?_
  refine z_iconst 2 2 dL_law_509 (by decide) ?_
  refine z_iadd dL_law_510 ?_
  refine z_sld hS hf dL_law_511 (fun v71 hf => ?_)
  refine z_aload_n 3 dL_law_512 rfl rfl ?_
  refine z_iload_n 2 dL_law_513 rfl rfl ?_
  refine z_iconst 3 3 dL_law_514 (by decide) ?_
  refine z_iadd dL_law_515 ?_
  refine z_sld hS hf dL_law_516 (fun v72 hf => ?_)
  obtain ⟨v73, ev73, hf⟩ := ob hf
  refine z_cVi (ci := 11) (T := TX11) (N := 14) (As := [.int v70, .int v71, .int v72]) (rest := []) (zm_X11_wayAt ev73).2 (zm_X11_wayAt ev73).1 (by decide) rfl (Or.inl rfl) mw_18_12 mw_18_13 mw_18_14 mw_1_2 mw_18_15 yk_X11_wayAt (by decide) (by decide) rfl (Nat.le_of_ble_eq_true rfl) rfl dL_law_517 ?_
  refine z_pop dL_law_520 rfl ?_
  refine z_aload_n 1 dL_law_521 rfl rfl ?_
  refine z_aload_n 3 dL_law_522 rfl rfl ?_
  refine z_iload_n 2 dL_law_523 rfl rfl ?_
  refine z_iconst 1 1 dL_law_524 (by decide) ?_
  refine z_iadd dL_law_525 ?_
  refine z_sld hS hf dL_law_526 (fun v74 hf => ?_)
  refine z_aload_n 3 dL_law_527 rfl rfl ?_
  refine z_iload_n 2 dL_law_528 rfl rfl ?_
  refine z_iconst 2 2 dL_law_529 (by decide) ?_
  refine z_iadd dL_law_530 ?_
  refine z_sld hS hf dL_law_531 (fun v75 hf => ?_)
  refine z_aload_n 3 dL_law_532 rfl rfl ?_
  refine z_iload_n 2 dL_law_533 rfl rfl ?_
  refine z_iconst 3 3 dL_law_534 (by decide) ?_
  refine z_iadd dL_law_535 ?_
  refine z_sld hS hf dL_law_536 (fun v76 hf => ?_)
  obtain ⟨v77, ev77, hf⟩ := ob hf
  refine z_cVi (ci := 12) (T := TX12) (N := 32) (As := [.int v74, .int v75, .int v76]) (rest := []) (zm_X12_wayAt ev77).2 (zm_X12_wayAt ev77).1 (by decide) rfl (Or.inl rfl) mw_19_5 mw_19_6 mw_19_7 mw_1_5 mw_19_8 yk_X12_wayAt (by decide) (by decide) rfl (Nat.le_of_ble_eq_true rfl) rfl dL_law_537 ?_
  refine z_pop dL_law_540 rfl ?_
  refine z_goto 1469 dL_law_541 (by decide) ?_
  exact zb_L_law_1469 hE hS hk18 hq18 hf
set_option maxRecDepth 20000 in
theorem le_L_law_586 {N L : Nat} {xs : Nat → Int32} {k18 : Nat → Nat → Int32 → AS → Option (Int32 × AS)} {r : Int32 × AS} (hk18 : ∀ (l1 : Nat) (l2 : Nat) (l3 : Int32) (s : AS), k18 l1 l2 l3 s = some r → Le s r.2) {l1 : Nat} {l2 : Nat} {l3 : Int32} {t0 : Nat} {t1 : Int32} {t2 : Int32} {s : AS} (hf : f_L_law_586 N L xs k18 l1 l2 l3 t0 t1 t2 s = some r) : Le s r.2 := by
  unfold f_L_law_586 at hf
  obtain ⟨v258, -, hf⟩ := ob hf
  exact Le.via (le_L_law_1469 hk18 hf) rfl
set_option maxRecDepth 20000 in
theorem zb_L_law_586 {N L : Nat} {xs : Nat → Int32} {b : Nat} {k18 : Nat → Nat → Int32 → AS → Option (Int32 × AS)} {r : Int32 × AS} {E : EV} (hE : TGL E r) (hS : SX E b L xs) (hk18 : ∀ (l1 : Nat) (l2 : Nat) (l3 : Int32) (s : AS), k18 l1 l2 l3 s = some r → Z E yL_law cL_law 4 (some .boolean) 8 s 18 [(1, .ref l1), (2, .ref l2), (3, .int l3), (0, .ref b)] []) (hq18 : ∀ (l1 : Nat) (l2 : Nat) (l3 : Int32) (s : AS), k18 l1 l2 l3 s = some r → Le s r.2) {l1 : Nat} {l2 : Nat} {l3 : Int32} {t0 : Nat} {t1 : Int32} {t2 : Int32} {s : AS} (hf : f_L_law_586 N L xs k18 l1 l2 l3 t0 t1 t2 s = some r) : Z E yL_law cL_law 4 (some .boolean) 8 s 586 [(1, .ref l1), (2, .ref l2), (3, .int l3), (0, .ref b)] [.int t2, .int t1, .ref t0] := by
  unfold f_L_law_586 at hf
  obtain ⟨v258, ev258, hf⟩ := ob hf
  refine z_cVi (ci := 12) (T := TX12) (N := 32) (As := [.int t1, .int t2]) (rest := []) (zm_X12_gauge ev258).2 (zm_X12_gauge ev258).1 (by decide) rfl (Or.inl rfl) mw_20_4 mw_20_5 mw_20_6 mw_1_5 mw_20_7 yk_X12_gauge (by decide) (by decide) rfl (Nat.le_of_ble_eq_true rfl) rfl dL_law_586 ?_
  refine z_pop dL_law_589 rfl ?_
  refine z_goto 1469 dL_law_590 (by decide) ?_
  exact zb_L_law_1469 hE hS hk18 hq18 hf
set_option maxRecDepth 20000 in
theorem le_L_law_566 {N L : Nat} {xs : Nat → Int32} {k18 : Nat → Nat → Int32 → AS → Option (Int32 × AS)} {r : Int32 × AS} (hk18 : ∀ (l1 : Nat) (l2 : Nat) (l3 : Int32) (s : AS), k18 l1 l2 l3 s = some r → Le s r.2) {l1 : Nat} {l2 : Nat} {l3 : Int32} {t0 : Int32} {s : AS} (hf : f_L_law_566 N L xs k18 l1 l2 l3 t0 s = some r) : Le s r.2 := by
  unfold f_L_law_566 at hf
  obtain ⟨v253, -, hf⟩ := ob hf
  obtain ⟨v254, -, hf⟩ := ob hf
  refine ite_c hf (fun hf => ?_) (fun hf => ?_)
  · exact Le.via (le_L_law_586 hk18 hf) rfl
  · exact Le.via (le_L_law_586 hk18 hf) rfl
set_option maxRecDepth 20000 in
theorem zb_L_law_566 {N L : Nat} {xs : Nat → Int32} {b : Nat} {k18 : Nat → Nat → Int32 → AS → Option (Int32 × AS)} {r : Int32 × AS} {E : EV} (hE : TGL E r) (hS : SX E b L xs) (hk18 : ∀ (l1 : Nat) (l2 : Nat) (l3 : Int32) (s : AS), k18 l1 l2 l3 s = some r → Z E yL_law cL_law 4 (some .boolean) 8 s 18 [(1, .ref l1), (2, .ref l2), (3, .int l3), (0, .ref b)] []) (hq18 : ∀ (l1 : Nat) (l2 : Nat) (l3 : Int32) (s : AS), k18 l1 l2 l3 s = some r → Le s r.2) {l1 : Nat} {l2 : Nat} {l3 : Int32} {t0 : Int32} {s : AS} (hf : f_L_law_566 N L xs k18 l1 l2 l3 t0 s = some r) : Z E yL_law cL_law 4 (some .boolean) 8 s 566 [(1, .ref l1), (2, .ref l2), (3, .int l3), (0, .ref b)] [.int t0] := by
  unfold f_L_law_566 at hf
  refine z_pop dL_law_566 rfl ?_
  refine z_aload_n 1 dL_law_567 rfl rfl ?_
  refine z_aload_n 3 dL_law_568 rfl rfl ?_
  refine z_iload_n 2 dL_law_569 rfl rfl ?_
  refine z_iconst 1 1 dL_law_570 (by decide) ?_
  refine z_iadd dL_law_571 ?_
  refine z_sld hS hf dL_law_572 (fun v253 hf => ?_)
  refine z_aload_n 3 dL_law_573 rfl rfl ?_
  refine z_iload_n 2 dL_law_574 rfl rfl ?_
  refine z_iconst 2 2 dL_law_575 (by decide) ?_
  refine z_iadd dL_law_576 ?_
  refine z_sld hS hf dL_law_577 (fun v254 hf => ?_)
  refine z_if_eq 585 hf dL_law_578 (by decide) (fun hf => ?_) (fun hf => ?_)
  · refine z_iconst 0 0 dL_law_585 (by decide) ?_
    exact zb_L_law_586 hE hS hk18 hq18 hf
  · refine z_iconst 1 1 dL_law_581 (by decide) ?_
    refine z_goto 586 dL_law_582 (by decide) ?_
    exact zb_L_law_586 hE hS hk18 hq18 hf
set_option maxRecDepth 20000 in
theorem le_L_law_563 {N L : Nat} {xs : Nat → Int32} {k18 : Nat → Nat → Int32 → AS → Option (Int32 × AS)} {r : Int32 × AS} (hk18 : ∀ (l1 : Nat) (l2 : Nat) (l3 : Int32) (s : AS), k18 l1 l2 l3 s = some r → Le s r.2) {l1 : Nat} {l2 : Nat} {l3 : Int32} {t0 : Nat} {t1 : Int32} {t2 : Int32} {s : AS} (hf : f_L_law_563 N L xs k18 l1 l2 l3 t0 t1 t2 s = some r) : Le s r.2 := by
  unfold f_L_law_563 at hf
  obtain ⟨v195, ev195, hf⟩ := ob hf
  refine Le.of (t := (s.1, s.2)) rfl ((lm_X11_gauge ev195).tr ?_)
  exact Le.via (le_L_law_566 hk18 hf) rfl
set_option maxRecDepth 20000 in
theorem zb_L_law_563 {N L : Nat} {xs : Nat → Int32} {b : Nat} {k18 : Nat → Nat → Int32 → AS → Option (Int32 × AS)} {r : Int32 × AS} {E : EV} (hE : TGL E r) (hS : SX E b L xs) (hk18 : ∀ (l1 : Nat) (l2 : Nat) (l3 : Int32) (s : AS), k18 l1 l2 l3 s = some r → Z E yL_law cL_law 4 (some .boolean) 8 s 18 [(1, .ref l1), (2, .ref l2), (3, .int l3), (0, .ref b)] []) (hq18 : ∀ (l1 : Nat) (l2 : Nat) (l3 : Int32) (s : AS), k18 l1 l2 l3 s = some r → Le s r.2) {l1 : Nat} {l2 : Nat} {l3 : Int32} {t0 : Nat} {t1 : Int32} {t2 : Int32} {s : AS} (hf : f_L_law_563 N L xs k18 l1 l2 l3 t0 t1 t2 s = some r) : Z E yL_law cL_law 4 (some .boolean) 8 s 563 [(1, .ref l1), (2, .ref l2), (3, .int l3), (0, .ref b)] [.int t2, .int t1, .ref t0] := by
  unfold f_L_law_563 at hf
  obtain ⟨v195, ev195, hf⟩ := ob hf
  refine z_cVi (ci := 11) (T := TX11) (N := 14) (As := [.int t1, .int t2]) (rest := []) (zm_X11_gauge ev195).2 (zm_X11_gauge ev195).1 (by decide) rfl (Or.inr (tgl_le hE (le_L_law_566 hq18 hf))) mw_19_17 mw_19_18 mw_19_19 mw_1_2 mw_19_20 yk_X11_gauge (by decide) (by decide) rfl (Nat.le_of_ble_eq_true rfl) rfl dL_law_563 ?_
  exact zb_L_law_566 hE hS hk18 hq18 hf
set_option maxRecDepth 20000 in
theorem le_L_law_544 {N L : Nat} {xs : Nat → Int32} {k18 : Nat → Nat → Int32 → AS → Option (Int32 × AS)} {r : Int32 × AS} (hk18 : ∀ (l1 : Nat) (l2 : Nat) (l3 : Int32) (s : AS), k18 l1 l2 l3 s = some r → Le s r.2) {l1 : Nat} {l2 : Nat} {l3 : Int32} {s : AS} (hf : f_L_law_544 N L xs k18 l1 l2 l3 s = some r) : Le s r.2 := by
  unfold f_L_law_544 at hf
  obtain ⟨v78, -, hf⟩ := ob hf
  obtain ⟨v79, -, hf⟩ := ob hf
  refine ite_c hf (fun hf => ?_) (fun hf => ?_)
  · exact Le.via (le_L_law_563 hk18 hf) rfl
  · exact Le.via (le_L_law_563 hk18 hf) rfl
set_option maxRecDepth 20000 in
theorem zb_L_law_544 {N L : Nat} {xs : Nat → Int32} {b : Nat} {k18 : Nat → Nat → Int32 → AS → Option (Int32 × AS)} {r : Int32 × AS} {E : EV} (hE : TGL E r) (hS : SX E b L xs) (hk18 : ∀ (l1 : Nat) (l2 : Nat) (l3 : Int32) (s : AS), k18 l1 l2 l3 s = some r → Z E yL_law cL_law 4 (some .boolean) 8 s 18 [(1, .ref l1), (2, .ref l2), (3, .int l3), (0, .ref b)] []) (hq18 : ∀ (l1 : Nat) (l2 : Nat) (l3 : Int32) (s : AS), k18 l1 l2 l3 s = some r → Le s r.2) {l1 : Nat} {l2 : Nat} {l3 : Int32} {s : AS} (hf : f_L_law_544 N L xs k18 l1 l2 l3 s = some r) : Z E yL_law cL_law 4 (some .boolean) 8 s 544 [(1, .ref l1), (2, .ref l2), (3, .int l3), (0, .ref b)] [] := by
  unfold f_L_law_544 at hf
  refine z_aload_n 0 dL_law_544 rfl rfl ?_
  refine z_aload_n 3 dL_law_545 rfl rfl ?_
  refine z_iload_n 2 dL_law_546 rfl rfl ?_
  refine z_iconst 1 1 dL_law_547 (by decide) ?_
  refine z_iadd dL_law_548 ?_
  refine z_sld hS hf dL_law_549 (fun v78 hf => ?_)
  refine z_aload_n 3 dL_law_550 rfl rfl ?_
  refine z_iload_n 2 dL_law_551 rfl rfl ?_
  refine z_iconst 2 2 dL_law_552 (by decide) ?_
  refine z_iadd dL_law_553 ?_
  refine z_sld hS hf dL_law_554 (fun v79 hf => ?_)
  refine z_if_eq 562 hf dL_law_555 (by decide) (fun hf => ?_) (fun hf => ?_)
  · refine z_iconst 0 0 dL_law_562 (by decide) ?_
    exact zb_L_law_563 hE hS hk18 hq18 hf
  · refine z_iconst 1 1 dL_law_558 (by decide) ?_
    refine z_goto 563 dL_law_559 (by decide) ?_
    exact zb_L_law_563 hE hS hk18 hq18 hf
set_option maxRecDepth 20000 in
theorem le_L_law_607 {N L : Nat} {xs : Nat → Int32} {k18 : Nat → Nat → Int32 → AS → Option (Int32 × AS)} {r : Int32 × AS} (hk18 : ∀ (l1 : Nat) (l2 : Nat) (l3 : Int32) (s : AS), k18 l1 l2 l3 s = some r → Le s r.2) {l1 : Nat} {l2 : Nat} {l3 : Int32} {t0 : Int32} {s : AS} (hf : f_L_law_607 N L xs k18 l1 l2 l3 t0 s = some r) : Le s r.2 := by
  unfold f_L_law_607 at hf
  obtain ⟨v196, -, hf⟩ := ob hf
  obtain ⟨v197, -, hf⟩ := ob hf
  obtain ⟨v198, -, hf⟩ := ob hf
  exact Le.via (le_L_law_1469 hk18 hf) rfl
set_option maxRecDepth 20000 in
theorem zb_L_law_607 {N L : Nat} {xs : Nat → Int32} {b : Nat} {k18 : Nat → Nat → Int32 → AS → Option (Int32 × AS)} {r : Int32 × AS} {E : EV} (hE : TGL E r) (hS : SX E b L xs) (hk18 : ∀ (l1 : Nat) (l2 : Nat) (l3 : Int32) (s : AS), k18 l1 l2 l3 s = some r → Z E yL_law cL_law 4 (some .boolean) 8 s 18 [(1, .ref l1), (2, .ref l2), (3, .int l3), (0, .ref b)] []) (hq18 : ∀ (l1 : Nat) (l2 : Nat) (l3 : Int32) (s : AS), k18 l1 l2 l3 s = some r → Le s r.2) {l1 : Nat} {l2 : Nat} {l3 : Int32} {t0 : Int32} {s : AS} (hf : f_L_law_607 N L xs k18 l1 l2 l3 t0 s = some r) : Z E yL_law cL_law 4 (some .boolean) 8 s 607 [(1, .ref l1), (2, .ref l2), (3, .int l3), (0, .ref b)] [.int t0] := by
  unfold f_L_law_607 at hf
  refine z_pop dL_law_607 rfl ?_
  refine z_aload_n 1 dL_law_608 rfl rfl ?_
  refine z_aload_n 3 dL_law_609 rfl rfl ?_
  refine z_iload_n 2 dL_law_610 rfl rfl ?_
  refine z_iconst 1 1 dL_law_611 (by decide) ?_
  refine z_iadd dL_law_612 ?_
  refine z_sld hS hf dL_law_613 (fun v196 hf => ?_)
  refine z_aload_n 3 dL_law_614 rfl rfl ?_
  refine z_iload_n 2 dL_law_615 rfl rfl ?_
  refine z_iconst 2 2 dL_law_616 (by decide) ?_
  refine z_iadd dL_law_617 ?_
  refine z_sld hS hf dL_law_618 (fun v197 hf => ?_)
  obtain ⟨v198, ev198, hf⟩ := ob hf
  refine z_cVi (ci := 12) (T := TX12) (N := 32) (As := [.int v196, .int v197]) (rest := []) (zm_X12_row ev198).2 (zm_X12_row ev198).1 (by decide) rfl (Or.inl rfl) mw_21_5 mw_21_6 mw_21_7 mw_1_5 mw_21_8 yk_X12_row (by decide) (by decide) rfl (Nat.le_of_ble_eq_true rfl) rfl dL_law_619 ?_
  refine z_pop dL_law_622 rfl ?_
  refine z_goto 1469 dL_law_623 (by decide) ?_
  exact zb_L_law_1469 hE hS hk18 hq18 hf
set_option maxRecDepth 20000 in
theorem le_L_law_593 {N L : Nat} {xs : Nat → Int32} {k18 : Nat → Nat → Int32 → AS → Option (Int32 × AS)} {r : Int32 × AS} (hk18 : ∀ (l1 : Nat) (l2 : Nat) (l3 : Int32) (s : AS), k18 l1 l2 l3 s = some r → Le s r.2) {l1 : Nat} {l2 : Nat} {l3 : Int32} {s : AS} (hf : f_L_law_593 N L xs k18 l1 l2 l3 s = some r) : Le s r.2 := by
  unfold f_L_law_593 at hf
  obtain ⟨v80, -, hf⟩ := ob hf
  obtain ⟨v81, -, hf⟩ := ob hf
  obtain ⟨v82, ev82, hf⟩ := ob hf
  refine Le.of (t := (s.1, s.2)) rfl ((lm_X11_row ev82).tr ?_)
  exact Le.via (le_L_law_607 hk18 hf) rfl
set_option maxRecDepth 20000 in
theorem zb_L_law_593 {N L : Nat} {xs : Nat → Int32} {b : Nat} {k18 : Nat → Nat → Int32 → AS → Option (Int32 × AS)} {r : Int32 × AS} {E : EV} (hE : TGL E r) (hS : SX E b L xs) (hk18 : ∀ (l1 : Nat) (l2 : Nat) (l3 : Int32) (s : AS), k18 l1 l2 l3 s = some r → Z E yL_law cL_law 4 (some .boolean) 8 s 18 [(1, .ref l1), (2, .ref l2), (3, .int l3), (0, .ref b)] []) (hq18 : ∀ (l1 : Nat) (l2 : Nat) (l3 : Int32) (s : AS), k18 l1 l2 l3 s = some r → Le s r.2) {l1 : Nat} {l2 : Nat} {l3 : Int32} {s : AS} (hf : f_L_law_593 N L xs k18 l1 l2 l3 s = some r) : Z E yL_law cL_law 4 (some .boolean) 8 s 593 [(1, .ref l1), (2, .ref l2), (3, .int l3), (0, .ref b)] [] := by
  unfold f_L_law_593 at hf
  refine z_aload_n 0 dL_law_593 rfl rfl ?_
  refine z_aload_n 3 dL_law_594 rfl rfl ?_
  refine z_iload_n 2 dL_law_595 rfl rfl ?_
  refine z_iconst 1 1 dL_law_596 (by decide) ?_
  refine z_iadd dL_law_597 ?_
  refine z_sld hS hf dL_law_598 (fun v80 hf => ?_)
  refine z_aload_n 3 dL_law_599 rfl rfl ?_
  refine z_iload_n 2 dL_law_600 rfl rfl ?_
  refine z_iconst 2 2 dL_law_601 (by decide) ?_
  refine z_iadd dL_law_602 ?_
  refine z_sld hS hf dL_law_603 (fun v81 hf => ?_)
  obtain ⟨v82, ev82, hf⟩ := ob hf
  refine z_cVi (ci := 11) (T := TX11) (N := 14) (As := [.int v80, .int v81]) (rest := []) (zm_X11_row ev82).2 (zm_X11_row ev82).1 (by decide) rfl (Or.inr (tgl_le hE (le_L_law_607 hq18 hf))) mw_20_12 mw_20_13 mw_20_14 mw_1_2 mw_20_15 yk_X11_row (by decide) (by decide) rfl (Nat.le_of_ble_eq_true rfl) rfl dL_law_604 ?_
  exact zb_L_law_607 hE hS hk18 hq18 hf
set_option maxRecDepth 20000 in
theorem le_L_law_635 {N L : Nat} {xs : Nat → Int32} {k18 : Nat → Nat → Int32 → AS → Option (Int32 × AS)} {r : Int32 × AS} (hk18 : ∀ (l1 : Nat) (l2 : Nat) (l3 : Int32) (s : AS), k18 l1 l2 l3 s = some r → Le s r.2) {l1 : Nat} {l2 : Nat} {l3 : Int32} {t0 : Int32} {s : AS} (hf : f_L_law_635 N L xs k18 l1 l2 l3 t0 s = some r) : Le s r.2 := by
  unfold f_L_law_635 at hf
  obtain ⟨v199, -, hf⟩ := ob hf
  obtain ⟨v200, -, hf⟩ := ob hf
  exact Le.via (le_L_law_1469 hk18 hf) rfl
set_option maxRecDepth 20000 in
theorem zb_L_law_635 {N L : Nat} {xs : Nat → Int32} {b : Nat} {k18 : Nat → Nat → Int32 → AS → Option (Int32 × AS)} {r : Int32 × AS} {E : EV} (hE : TGL E r) (hS : SX E b L xs) (hk18 : ∀ (l1 : Nat) (l2 : Nat) (l3 : Int32) (s : AS), k18 l1 l2 l3 s = some r → Z E yL_law cL_law 4 (some .boolean) 8 s 18 [(1, .ref l1), (2, .ref l2), (3, .int l3), (0, .ref b)] []) (hq18 : ∀ (l1 : Nat) (l2 : Nat) (l3 : Int32) (s : AS), k18 l1 l2 l3 s = some r → Le s r.2) {l1 : Nat} {l2 : Nat} {l3 : Int32} {t0 : Int32} {s : AS} (hf : f_L_law_635 N L xs k18 l1 l2 l3 t0 s = some r) : Z E yL_law cL_law 4 (some .boolean) 8 s 635 [(1, .ref l1), (2, .ref l2), (3, .int l3), (0, .ref b)] [.int t0] := by
  unfold f_L_law_635 at hf
  refine z_pop dL_law_635 rfl ?_
  refine z_aload_n 1 dL_law_636 rfl rfl ?_
  refine z_aload_n 3 dL_law_637 rfl rfl ?_
  refine z_iload_n 2 dL_law_638 rfl rfl ?_
  refine z_iconst 1 1 dL_law_639 (by decide) ?_
  refine z_iadd dL_law_640 ?_
  refine z_sld hS hf dL_law_641 (fun v199 hf => ?_)
  obtain ⟨v200, ev200, hf⟩ := ob hf
  refine z_cVi (ci := 12) (T := TX12) (N := 32) (As := [.int v199]) (rest := []) (zm_X12_lose ev200).2 (zm_X12_lose ev200).1 (by decide) rfl (Or.inl rfl) mw_21_21 mw_21_22 mw_21_23 mw_1_5 mw_22_0 yk_X12_lose (by decide) (by decide) rfl (Nat.le_of_ble_eq_true rfl) rfl dL_law_642 ?_
  refine z_pop dL_law_645 rfl ?_
  refine z_goto 1469 dL_law_646 (by decide) ?_
  exact zb_L_law_1469 hE hS hk18 hq18 hf
set_option maxRecDepth 20000 in
theorem le_L_law_626 {N L : Nat} {xs : Nat → Int32} {k18 : Nat → Nat → Int32 → AS → Option (Int32 × AS)} {r : Int32 × AS} (hk18 : ∀ (l1 : Nat) (l2 : Nat) (l3 : Int32) (s : AS), k18 l1 l2 l3 s = some r → Le s r.2) {l1 : Nat} {l2 : Nat} {l3 : Int32} {s : AS} (hf : f_L_law_626 N L xs k18 l1 l2 l3 s = some r) : Le s r.2 := by
  unfold f_L_law_626 at hf
  obtain ⟨v83, -, hf⟩ := ob hf
  obtain ⟨v84, ev84, hf⟩ := ob hf
  refine Le.of (t := (s.1, s.2)) rfl ((lm_X11_lose ev84).tr ?_)
  exact Le.via (le_L_law_635 hk18 hf) rfl
set_option maxRecDepth 20000 in
theorem zb_L_law_626 {N L : Nat} {xs : Nat → Int32} {b : Nat} {k18 : Nat → Nat → Int32 → AS → Option (Int32 × AS)} {r : Int32 × AS} {E : EV} (hE : TGL E r) (hS : SX E b L xs) (hk18 : ∀ (l1 : Nat) (l2 : Nat) (l3 : Int32) (s : AS), k18 l1 l2 l3 s = some r → Z E yL_law cL_law 4 (some .boolean) 8 s 18 [(1, .ref l1), (2, .ref l2), (3, .int l3), (0, .ref b)] []) (hq18 : ∀ (l1 : Nat) (l2 : Nat) (l3 : Int32) (s : AS), k18 l1 l2 l3 s = some r → Le s r.2) {l1 : Nat} {l2 : Nat} {l3 : Int32} {s : AS} (hf : f_L_law_626 N L xs k18 l1 l2 l3 s = some r) : Z E yL_law cL_law 4 (some .boolean) 8 s 626 [(1, .ref l1), (2, .ref l2), (3, .int l3), (0, .ref b)] [] := by
  unfold f_L_law_626 at hf
  refine z_aload_n 0 dL_law_626 rfl rfl ?_
  refine z_aload_n 3 dL_law_627 rfl rfl ?_
  refine z_iload_n 2 dL_law_628 rfl rfl ?_
  refine z_iconst 1 1 dL_law_629 (by decide) ?_
  refine z_iadd dL_law_630 ?_
  refine z_sld hS hf dL_law_631 (fun v83 hf => ?_)
  obtain ⟨v84, ev84, hf⟩ := ob hf
  refine z_cVi (ci := 11) (T := TX11) (N := 14) (As := [.int v83]) (rest := []) (zm_X11_lose ev84).2 (zm_X11_lose ev84).1 (by decide) rfl (Or.inr (tgl_le hE (le_L_law_635 hq18 hf))) mw_21_13 mw_21_14 mw_21_15 mw_1_2 mw_21_16 yk_X11_lose (by decide) (by decide) rfl (Nat.le_of_ble_eq_true rfl) rfl dL_law_632 ?_
  exact zb_L_law_635 hE hS hk18 hq18 hf
set_option maxRecDepth 20000 in
theorem le_L_law_668 {N L : Nat} {xs : Nat → Int32} {k18 : Nat → Nat → Int32 → AS → Option (Int32 × AS)} {r : Int32 × AS} (hk18 : ∀ (l1 : Nat) (l2 : Nat) (l3 : Int32) (s : AS), k18 l1 l2 l3 s = some r → Le s r.2) {l1 : Nat} {l2 : Nat} {l3 : Int32} {t0 : Int32} {s : AS} (hf : f_L_law_668 N L xs k18 l1 l2 l3 t0 s = some r) : Le s r.2 := by
  unfold f_L_law_668 at hf
  obtain ⟨v201, -, hf⟩ := ob hf
  obtain ⟨v202, -, hf⟩ := ob hf
  obtain ⟨v203, -, hf⟩ := ob hf
  obtain ⟨v204, -, hf⟩ := ob hf
  exact Le.via (le_L_law_1469 hk18 hf) rfl
set_option maxRecDepth 20000 in
theorem zb_L_law_668 {N L : Nat} {xs : Nat → Int32} {b : Nat} {k18 : Nat → Nat → Int32 → AS → Option (Int32 × AS)} {r : Int32 × AS} {E : EV} (hE : TGL E r) (hS : SX E b L xs) (hk18 : ∀ (l1 : Nat) (l2 : Nat) (l3 : Int32) (s : AS), k18 l1 l2 l3 s = some r → Z E yL_law cL_law 4 (some .boolean) 8 s 18 [(1, .ref l1), (2, .ref l2), (3, .int l3), (0, .ref b)] []) (hq18 : ∀ (l1 : Nat) (l2 : Nat) (l3 : Int32) (s : AS), k18 l1 l2 l3 s = some r → Le s r.2) {l1 : Nat} {l2 : Nat} {l3 : Int32} {t0 : Int32} {s : AS} (hf : f_L_law_668 N L xs k18 l1 l2 l3 t0 s = some r) : Z E yL_law cL_law 4 (some .boolean) 8 s 668 [(1, .ref l1), (2, .ref l2), (3, .int l3), (0, .ref b)] [.int t0] := by
  unfold f_L_law_668 at hf
  refine z_pop dL_law_668 rfl ?_
  refine z_aload_n 1 dL_law_669 rfl rfl ?_
  refine z_aload_n 3 dL_law_670 rfl rfl ?_
  refine z_iload_n 2 dL_law_671 rfl rfl ?_
  refine z_iconst 1 1 dL_law_672 (by decide) ?_
  refine z_iadd dL_law_673 ?_
  refine z_sld hS hf dL_law_674 (fun v201 hf => ?_)
  refine z_aload_n 3 dL_law_675 rfl rfl ?_
  refine z_iload_n 2 dL_law_676 rfl rfl ?_
  refine z_iconst 2 2 dL_law_677 (by decide) ?_
  refine z_iadd dL_law_678 ?_
  refine z_sld hS hf dL_law_679 (fun v202 hf => ?_)
  refine z_aload_n 3 dL_law_680 rfl rfl ?_
  refine z_iload_n 2 dL_law_681 rfl rfl ?_
  refine z_iconst 3 3 dL_law_682 (by decide) ?_
  refine z_iadd dL_law_683 ?_
  refine z_sld hS hf dL_law_684 (fun v203 hf => ?_)
  obtain ⟨v204, ev204, hf⟩ := ob hf
  refine z_cVi (ci := 12) (T := TX12) (N := 32) (As := [.int v201, .int v202, .int v203]) (rest := []) (zm_X12_reading ev204).2 (zm_X12_reading ev204).1 (by decide) rfl (Or.inl rfl) mw_23_0 mw_23_1 mw_23_2 mw_1_5 mw_23_3 yk_X12_reading (by decide) (by decide) rfl (Nat.le_of_ble_eq_true rfl) rfl dL_law_685 ?_
  refine z_pop dL_law_688 rfl ?_
  refine z_goto 1469 dL_law_689 (by decide) ?_
  exact zb_L_law_1469 hE hS hk18 hq18 hf
set_option maxRecDepth 20000 in
theorem le_L_law_649 {N L : Nat} {xs : Nat → Int32} {k18 : Nat → Nat → Int32 → AS → Option (Int32 × AS)} {r : Int32 × AS} (hk18 : ∀ (l1 : Nat) (l2 : Nat) (l3 : Int32) (s : AS), k18 l1 l2 l3 s = some r → Le s r.2) {l1 : Nat} {l2 : Nat} {l3 : Int32} {s : AS} (hf : f_L_law_649 N L xs k18 l1 l2 l3 s = some r) : Le s r.2 := by
  unfold f_L_law_649 at hf
  obtain ⟨v85, -, hf⟩ := ob hf
  obtain ⟨v86, -, hf⟩ := ob hf
  obtain ⟨v87, -, hf⟩ := ob hf
  obtain ⟨v88, ev88, hf⟩ := ob hf
  refine Le.of (t := (s.1, s.2)) rfl ((lm_X11_reading ev88).tr ?_)
  exact Le.via (le_L_law_668 hk18 hf) rfl
set_option maxRecDepth 20000 in
theorem zb_L_law_649 {N L : Nat} {xs : Nat → Int32} {b : Nat} {k18 : Nat → Nat → Int32 → AS → Option (Int32 × AS)} {r : Int32 × AS} {E : EV} (hE : TGL E r) (hS : SX E b L xs) (hk18 : ∀ (l1 : Nat) (l2 : Nat) (l3 : Int32) (s : AS), k18 l1 l2 l3 s = some r → Z E yL_law cL_law 4 (some .boolean) 8 s 18 [(1, .ref l1), (2, .ref l2), (3, .int l3), (0, .ref b)] []) (hq18 : ∀ (l1 : Nat) (l2 : Nat) (l3 : Int32) (s : AS), k18 l1 l2 l3 s = some r → Le s r.2) {l1 : Nat} {l2 : Nat} {l3 : Int32} {s : AS} (hf : f_L_law_649 N L xs k18 l1 l2 l3 s = some r) : Z E yL_law cL_law 4 (some .boolean) 8 s 649 [(1, .ref l1), (2, .ref l2), (3, .int l3), (0, .ref b)] [] := by
  unfold f_L_law_649 at hf
  refine z_aload_n 0 dL_law_649 rfl rfl ?_
  refine z_aload_n 3 dL_law_650 rfl rfl ?_
  refine z_iload_n 2 dL_law_651 rfl rfl ?_
  refine z_iconst 1 1 dL_law_652 (by decide) ?_
  refine z_iadd dL_law_653 ?_
  refine z_sld hS hf dL_law_654 (fun v85 hf => ?_)
  refine z_aload_n 3 dL_law_655 rfl rfl ?_
  refine z_iload_n 2 dL_law_656 rfl rfl ?_
  refine z_iconst 2 2 dL_law_657 (by decide) ?_
  refine z_iadd dL_law_658 ?_
  refine z_sld hS hf dL_law_659 (fun v86 hf => ?_)
  refine z_aload_n 3 dL_law_660 rfl rfl ?_
  refine z_iload_n 2 dL_law_661 rfl rfl ?_
  refine z_iconst 3 3 dL_law_662 (by decide) ?_
  refine z_iadd dL_law_663 ?_
  refine z_sld hS hf dL_law_664 (fun v87 hf => ?_)
  obtain ⟨v88, ev88, hf⟩ := ob hf
  refine z_cVi (ci := 11) (T := TX11) (N := 14) (As := [.int v85, .int v86, .int v87]) (rest := []) (zm_X11_reading ev88).2 (zm_X11_reading ev88).1 (by decide) rfl (Or.inr (tgl_le hE (le_L_law_668 hq18 hf))) mw_22_1 mw_22_2 mw_22_3 mw_1_2 mw_22_4 yk_X11_reading (by decide) (by decide) rfl (Nat.le_of_ble_eq_true rfl) rfl dL_law_665 ?_
  exact zb_L_law_668 hE hS hk18 hq18 hf
set_option maxRecDepth 20000 in
theorem le_L_law_711 {N L : Nat} {xs : Nat → Int32} {k18 : Nat → Nat → Int32 → AS → Option (Int32 × AS)} {r : Int32 × AS} (hk18 : ∀ (l1 : Nat) (l2 : Nat) (l3 : Int32) (s : AS), k18 l1 l2 l3 s = some r → Le s r.2) {l1 : Nat} {l2 : Nat} {l3 : Int32} {t0 : Int32} {s : AS} (hf : f_L_law_711 N L xs k18 l1 l2 l3 t0 s = some r) : Le s r.2 := by
  unfold f_L_law_711 at hf
  obtain ⟨v205, -, hf⟩ := ob hf
  obtain ⟨v206, -, hf⟩ := ob hf
  obtain ⟨v207, -, hf⟩ := ob hf
  obtain ⟨v208, -, hf⟩ := ob hf
  exact Le.via (le_L_law_1469 hk18 hf) rfl
set_option maxRecDepth 20000 in
theorem zb_L_law_711 {N L : Nat} {xs : Nat → Int32} {b : Nat} {k18 : Nat → Nat → Int32 → AS → Option (Int32 × AS)} {r : Int32 × AS} {E : EV} (hE : TGL E r) (hS : SX E b L xs) (hk18 : ∀ (l1 : Nat) (l2 : Nat) (l3 : Int32) (s : AS), k18 l1 l2 l3 s = some r → Z E yL_law cL_law 4 (some .boolean) 8 s 18 [(1, .ref l1), (2, .ref l2), (3, .int l3), (0, .ref b)] []) (hq18 : ∀ (l1 : Nat) (l2 : Nat) (l3 : Int32) (s : AS), k18 l1 l2 l3 s = some r → Le s r.2) {l1 : Nat} {l2 : Nat} {l3 : Int32} {t0 : Int32} {s : AS} (hf : f_L_law_711 N L xs k18 l1 l2 l3 t0 s = some r) : Z E yL_law cL_law 4 (some .boolean) 8 s 711 [(1, .ref l1), (2, .ref l2), (3, .int l3), (0, .ref b)] [.int t0] := by
  unfold f_L_law_711 at hf
  refine z_pop dL_law_711 rfl ?_
  refine z_aload_n 1 dL_law_712 rfl rfl ?_
  refine z_aload_n 3 dL_law_713 rfl rfl ?_
  refine z_iload_n 2 dL_law_714 rfl rfl ?_
  refine z_iconst 1 1 dL_law_715 (by decide) ?_
  refine z_iadd dL_law_716 ?_
  refine z_sld hS hf dL_law_717 (fun v205 hf => ?_)
  refine z_aload_n 3 dL_law_718 rfl rfl ?_
  refine z_iload_n 2 dL_law_719 rfl rfl ?_
  refine z_iconst 2 2 dL_law_720 (by decide) ?_
  refine z_iadd dL_law_721 ?_
  refine z_sld hS hf dL_law_722 (fun v206 hf => ?_)
  refine z_aload_n 3 dL_law_723 rfl rfl ?_
  refine z_iload_n 2 dL_law_724 rfl rfl ?_
  refine z_iconst 3 3 dL_law_725 (by decide) ?_
  refine z_iadd dL_law_726 ?_
  refine z_sld hS hf dL_law_727 (fun v207 hf => ?_)
  obtain ⟨v208, ev208, hf⟩ := ob hf
  refine z_cVi (ci := 12) (T := TX12) (N := 32) (As := [.int v205, .int v206, .int v207]) (rest := []) (zm_X12_none ev208).2 (zm_X12_none ev208).1 (by decide) rfl (Or.inl rfl) mw_23_18 mw_23_19 mw_23_20 mw_1_5 mw_23_21 yk_X12_none (by decide) (by decide) rfl (Nat.le_of_ble_eq_true rfl) rfl dL_law_728 ?_
  refine z_pop dL_law_731 rfl ?_
  refine z_goto 1469 dL_law_732 (by decide) ?_
  exact zb_L_law_1469 hE hS hk18 hq18 hf
set_option maxRecDepth 20000 in
theorem le_L_law_692 {N L : Nat} {xs : Nat → Int32} {k18 : Nat → Nat → Int32 → AS → Option (Int32 × AS)} {r : Int32 × AS} (hk18 : ∀ (l1 : Nat) (l2 : Nat) (l3 : Int32) (s : AS), k18 l1 l2 l3 s = some r → Le s r.2) {l1 : Nat} {l2 : Nat} {l3 : Int32} {s : AS} (hf : f_L_law_692 N L xs k18 l1 l2 l3 s = some r) : Le s r.2 := by
  unfold f_L_law_692 at hf
  obtain ⟨v89, -, hf⟩ := ob hf
  obtain ⟨v90, -, hf⟩ := ob hf
  obtain ⟨v91, -, hf⟩ := ob hf
  obtain ⟨v92, ev92, hf⟩ := ob hf
  refine Le.of (t := (s.1, s.2)) rfl ((lm_X11_none ev92).tr ?_)
  exact Le.via (le_L_law_711 hk18 hf) rfl
set_option maxRecDepth 20000 in
theorem zb_L_law_692 {N L : Nat} {xs : Nat → Int32} {b : Nat} {k18 : Nat → Nat → Int32 → AS → Option (Int32 × AS)} {r : Int32 × AS} {E : EV} (hE : TGL E r) (hS : SX E b L xs) (hk18 : ∀ (l1 : Nat) (l2 : Nat) (l3 : Int32) (s : AS), k18 l1 l2 l3 s = some r → Z E yL_law cL_law 4 (some .boolean) 8 s 18 [(1, .ref l1), (2, .ref l2), (3, .int l3), (0, .ref b)] []) (hq18 : ∀ (l1 : Nat) (l2 : Nat) (l3 : Int32) (s : AS), k18 l1 l2 l3 s = some r → Le s r.2) {l1 : Nat} {l2 : Nat} {l3 : Int32} {s : AS} (hf : f_L_law_692 N L xs k18 l1 l2 l3 s = some r) : Z E yL_law cL_law 4 (some .boolean) 8 s 692 [(1, .ref l1), (2, .ref l2), (3, .int l3), (0, .ref b)] [] := by
  unfold f_L_law_692 at hf
  refine z_aload_n 0 dL_law_692 rfl rfl ?_
  refine z_aload_n 3 dL_law_693 rfl rfl ?_
  refine z_iload_n 2 dL_law_694 rfl rfl ?_
  refine z_iconst 1 1 dL_law_695 (by decide) ?_
  refine z_iadd dL_law_696 ?_
  refine z_sld hS hf dL_law_697 (fun v89 hf => ?_)
  refine z_aload_n 3 dL_law_698 rfl rfl ?_
  refine z_iload_n 2 dL_law_699 rfl rfl ?_
  refine z_iconst 2 2 dL_law_700 (by decide) ?_
  refine z_iadd dL_law_701 ?_
  refine z_sld hS hf dL_law_702 (fun v90 hf => ?_)
  refine z_aload_n 3 dL_law_703 rfl rfl ?_
  refine z_iload_n 2 dL_law_704 rfl rfl ?_
  refine z_iconst 3 3 dL_law_705 (by decide) ?_
  refine z_iadd dL_law_706 ?_
  refine z_sld hS hf dL_law_707 (fun v91 hf => ?_)
  obtain ⟨v92, ev92, hf⟩ := ob hf
  refine z_cVi (ci := 11) (T := TX11) (N := 14) (As := [.int v89, .int v90, .int v91]) (rest := []) (zm_X11_none ev92).2 (zm_X11_none ev92).1 (by decide) rfl (Or.inr (tgl_le hE (le_L_law_711 hq18 hf))) mw_23_12 mw_23_13 mw_23_14 mw_1_2 mw_23_15 yk_X11_none (by decide) (by decide) rfl (Nat.le_of_ble_eq_true rfl) rfl dL_law_708 ?_
  exact zb_L_law_711 hE hS hk18 hq18 hf
set_option maxRecDepth 20000 in
theorem le_L_law_735 {N L : Nat} {xs : Nat → Int32} {k18 : Nat → Nat → Int32 → AS → Option (Int32 × AS)} {r : Int32 × AS} (hk18 : ∀ (l1 : Nat) (l2 : Nat) (l3 : Int32) (s : AS), k18 l1 l2 l3 s = some r → Le s r.2) {l1 : Nat} {l2 : Nat} {l3 : Int32} {s : AS} (hf : f_L_law_735 N L xs k18 l1 l2 l3 s = some r) : Le s r.2 := by
  unfold f_L_law_735 at hf
  obtain ⟨v93, -, hf⟩ := ob hf
  obtain ⟨v94, -, hf⟩ := ob hf
  obtain ⟨v95, -, hf⟩ := ob hf
  obtain ⟨v96, -, hf⟩ := ob hf
  obtain ⟨v97, -, hf⟩ := ob hf
  obtain ⟨v98, -, hf⟩ := ob hf
  exact Le.via (le_L_law_1469 hk18 hf) rfl
set_option maxRecDepth 20000 in
theorem zb_L_law_735 {N L : Nat} {xs : Nat → Int32} {b : Nat} {k18 : Nat → Nat → Int32 → AS → Option (Int32 × AS)} {r : Int32 × AS} {E : EV} (hE : TGL E r) (hS : SX E b L xs) (hk18 : ∀ (l1 : Nat) (l2 : Nat) (l3 : Int32) (s : AS), k18 l1 l2 l3 s = some r → Z E yL_law cL_law 4 (some .boolean) 8 s 18 [(1, .ref l1), (2, .ref l2), (3, .int l3), (0, .ref b)] []) (hq18 : ∀ (l1 : Nat) (l2 : Nat) (l3 : Int32) (s : AS), k18 l1 l2 l3 s = some r → Le s r.2) {l1 : Nat} {l2 : Nat} {l3 : Int32} {s : AS} (hf : f_L_law_735 N L xs k18 l1 l2 l3 s = some r) : Z E yL_law cL_law 4 (some .boolean) 8 s 735 [(1, .ref l1), (2, .ref l2), (3, .int l3), (0, .ref b)] [] := by
  unfold f_L_law_735 at hf
  refine z_aload_n 0 dL_law_735 rfl rfl ?_
  refine z_aload_n 3 dL_law_736 rfl rfl ?_
  refine z_iload_n 2 dL_law_737 rfl rfl ?_
  refine z_iconst 1 1 dL_law_738 (by decide) ?_
  refine z_iadd dL_law_739 ?_
  refine z_sld hS hf dL_law_740 (fun v93 hf => ?_)
  refine z_aload_n 3 dL_law_741 rfl rfl ?_
  refine z_iload_n 2 dL_law_742 rfl rfl ?_
  refine z_iconst 2 2 dL_law_743 (by decide) ?_
  refine z_iadd dL_law_744 ?_
  refine z_sld hS hf dL_law_745 (fun v94 hf => ?_)
  obtain ⟨v95, ev95, hf⟩ := ob hf
  refine z_cVi (ci := 11) (T := TX11) (N := 14) (As := [.int v93, .int v94]) (rest := []) (zm_X11_read ev95).2 (zm_X11_read ev95).1 (by decide) rfl (Or.inl rfl) mw_23_22 mw_23_23 mw_24_0 mw_1_2 mw_24_1 yk_X11_read (by decide) (by decide) rfl (Nat.le_of_ble_eq_true rfl) rfl dL_law_746 ?_
  refine z_pop dL_law_749 rfl ?_
  refine z_aload_n 1 dL_law_750 rfl rfl ?_
  refine z_aload_n 3 dL_law_751 rfl rfl ?_
  refine z_iload_n 2 dL_law_752 rfl rfl ?_
  refine z_iconst 1 1 dL_law_753 (by decide) ?_
  refine z_iadd dL_law_754 ?_
  refine z_sld hS hf dL_law_755 (fun v96 hf => ?_)
  refine z_aload_n 3 dL_law_756 rfl rfl ?_
  refine z_iload_n 2 dL_law_757 rfl rfl ?_
  refine z_iconst 2 2 dL_law_758 (by decide) ?_
  refine z_iadd dL_law_759 ?_
  refine z_sld hS hf dL_law_760 (fun v97 hf => ?_)
  obtain ⟨v98, ev98, hf⟩ := ob hf
  refine z_cVi (ci := 12) (T := TX12) (N := 32) (As := [.int v96, .int v97]) (rest := []) (zm_X12_read ev98).2 (zm_X12_read ev98).1 (by decide) rfl (Or.inl rfl) mw_24_16 mw_24_17 mw_24_18 mw_1_5 mw_24_19 yk_X12_read (by decide) (by decide) rfl (Nat.le_of_ble_eq_true rfl) rfl dL_law_761 ?_
  refine z_pop dL_law_764 rfl ?_
  refine z_goto 1469 dL_law_765 (by decide) ?_
  exact zb_L_law_1469 hE hS hk18 hq18 hf
set_option maxRecDepth 20000 in
theorem le_L_law_797 {N L : Nat} {xs : Nat → Int32} {k18 : Nat → Nat → Int32 → AS → Option (Int32 × AS)} {r : Int32 × AS} (hk18 : ∀ (l1 : Nat) (l2 : Nat) (l3 : Int32) (s : AS), k18 l1 l2 l3 s = some r → Le s r.2) {l1 : Nat} {l2 : Nat} {l3 : Int32} {t0 : Int32} {s : AS} (hf : f_L_law_797 N L xs k18 l1 l2 l3 t0 s = some r) : Le s r.2 := by
  unfold f_L_law_797 at hf
  obtain ⟨v209, -, hf⟩ := ob hf
  obtain ⟨v210, -, hf⟩ := ob hf
  obtain ⟨v211, -, hf⟩ := ob hf
  obtain ⟨v212, -, hf⟩ := ob hf
  obtain ⟨v213, -, hf⟩ := ob hf
  obtain ⟨v214, -, hf⟩ := ob hf
  exact Le.via (le_L_law_1469 hk18 hf) rfl
set_option maxRecDepth 20000 in
theorem zb_L_law_797 {N L : Nat} {xs : Nat → Int32} {b : Nat} {k18 : Nat → Nat → Int32 → AS → Option (Int32 × AS)} {r : Int32 × AS} {E : EV} (hE : TGL E r) (hS : SX E b L xs) (hk18 : ∀ (l1 : Nat) (l2 : Nat) (l3 : Int32) (s : AS), k18 l1 l2 l3 s = some r → Z E yL_law cL_law 4 (some .boolean) 8 s 18 [(1, .ref l1), (2, .ref l2), (3, .int l3), (0, .ref b)] []) (hq18 : ∀ (l1 : Nat) (l2 : Nat) (l3 : Int32) (s : AS), k18 l1 l2 l3 s = some r → Le s r.2) {l1 : Nat} {l2 : Nat} {l3 : Int32} {t0 : Int32} {s : AS} (hf : f_L_law_797 N L xs k18 l1 l2 l3 t0 s = some r) : Z E yL_law cL_law 4 (some .boolean) 8 s 797 [(1, .ref l1), (2, .ref l2), (3, .int l3), (0, .ref b)] [.int t0] := by
  unfold f_L_law_797 at hf
  refine z_pop dL_law_797 rfl ?_
  refine z_aload_n 1 dL_law_798 rfl rfl ?_
  refine z_aload_n 3 dL_law_799 rfl rfl ?_
  refine z_iload_n 2 dL_law_800 rfl rfl ?_
  refine z_iconst 1 1 dL_law_801 (by decide) ?_
  refine z_iadd dL_law_802 ?_
  refine z_sld hS hf dL_law_803 (fun v209 hf => ?_)
  refine z_aload_n 3 dL_law_804 rfl rfl ?_
  refine z_iload_n 2 dL_law_805 rfl rfl ?_
  refine z_iconst 2 2 dL_law_806 (by decide) ?_
  refine z_iadd dL_law_807 ?_
  refine z_sld hS hf dL_law_808 (fun v210 hf => ?_)
  refine z_aload_n 3 dL_law_809 rfl rfl ?_
  refine z_iload_n 2 dL_law_810 rfl rfl ?_
  refine z_iconst 3 3 dL_law_811 (by decide) ?_
  refine z_iadd dL_law_812 ?_
  refine z_sld hS hf dL_law_813 (fun v211 hf => ?_)
  refine z_aload_n 3 dL_law_814 rfl rfl ?_
  refine z_iload_n 2 dL_law_815 rfl rfl ?_
  refine z_iconst 4 4 dL_law_816 (by decide) ?_
  refine z_iadd dL_law_817 ?_
  refine z_sld hS hf dL_law_818 (fun v212 hf => ?_)
  refine z_aload_n 3 dL_law_819 rfl rfl ?_
  refine z_iload_n 2 dL_law_820 rfl rfl ?_
  refine z_iconst 5 5 dL_law_821 (by decide) ?_
  refine z_iadd dL_law_822 ?_
  refine z_sld hS hf dL_law_823 (fun v213 hf => ?_)
  obtain ⟨v214, ev214, hf⟩ := ob hf
  refine z_cVi (ci := 12) (T := TX12) (N := 32) (As := [.int v209, .int v210, .int v211, .int v212, .int v213]) (rest := []) (zm_X12_copy ev214).2 (zm_X12_copy ev214).1 (by decide) rfl (Or.inl rfl) mw_26_6 mw_26_7 mw_26_8 mw_1_5 mw_26_9 yk_X12_copy (by decide) (by decide) rfl (Nat.le_of_ble_eq_true rfl) rfl dL_law_824 ?_
  refine z_pop dL_law_827 rfl ?_
  refine z_goto 1469 dL_law_828 (by decide) ?_
  exact zb_L_law_1469 hE hS hk18 hq18 hf
set_option maxRecDepth 20000 in
theorem le_L_law_768 {N L : Nat} {xs : Nat → Int32} {k18 : Nat → Nat → Int32 → AS → Option (Int32 × AS)} {r : Int32 × AS} (hk18 : ∀ (l1 : Nat) (l2 : Nat) (l3 : Int32) (s : AS), k18 l1 l2 l3 s = some r → Le s r.2) {l1 : Nat} {l2 : Nat} {l3 : Int32} {s : AS} (hf : f_L_law_768 N L xs k18 l1 l2 l3 s = some r) : Le s r.2 := by
  unfold f_L_law_768 at hf
  obtain ⟨v99, -, hf⟩ := ob hf
  obtain ⟨v100, -, hf⟩ := ob hf
  obtain ⟨v101, -, hf⟩ := ob hf
  obtain ⟨v102, -, hf⟩ := ob hf
  obtain ⟨v103, -, hf⟩ := ob hf
  obtain ⟨v104, ev104, hf⟩ := ob hf
  refine Le.of (t := (s.1, s.2)) rfl ((lm_X11_copy ev104).tr ?_)
  exact Le.via (le_L_law_797 hk18 hf) rfl
set_option maxRecDepth 20000 in
theorem zb_L_law_768 {N L : Nat} {xs : Nat → Int32} {b : Nat} {k18 : Nat → Nat → Int32 → AS → Option (Int32 × AS)} {r : Int32 × AS} {E : EV} (hE : TGL E r) (hS : SX E b L xs) (hk18 : ∀ (l1 : Nat) (l2 : Nat) (l3 : Int32) (s : AS), k18 l1 l2 l3 s = some r → Z E yL_law cL_law 4 (some .boolean) 8 s 18 [(1, .ref l1), (2, .ref l2), (3, .int l3), (0, .ref b)] []) (hq18 : ∀ (l1 : Nat) (l2 : Nat) (l3 : Int32) (s : AS), k18 l1 l2 l3 s = some r → Le s r.2) {l1 : Nat} {l2 : Nat} {l3 : Int32} {s : AS} (hf : f_L_law_768 N L xs k18 l1 l2 l3 s = some r) : Z E yL_law cL_law 4 (some .boolean) 8 s 768 [(1, .ref l1), (2, .ref l2), (3, .int l3), (0, .ref b)] [] := by
  unfold f_L_law_768 at hf
  refine z_aload_n 0 dL_law_768 rfl rfl ?_
  refine z_aload_n 3 dL_law_769 rfl rfl ?_
  refine z_iload_n 2 dL_law_770 rfl rfl ?_
  refine z_iconst 1 1 dL_law_771 (by decide) ?_
  refine z_iadd dL_law_772 ?_
  refine z_sld hS hf dL_law_773 (fun v99 hf => ?_)
  refine z_aload_n 3 dL_law_774 rfl rfl ?_
  refine z_iload_n 2 dL_law_775 rfl rfl ?_
  refine z_iconst 2 2 dL_law_776 (by decide) ?_
  refine z_iadd dL_law_777 ?_
  refine z_sld hS hf dL_law_778 (fun v100 hf => ?_)
  refine z_aload_n 3 dL_law_779 rfl rfl ?_
  refine z_iload_n 2 dL_law_780 rfl rfl ?_
  refine z_iconst 3 3 dL_law_781 (by decide) ?_
  refine z_iadd dL_law_782 ?_
  refine z_sld hS hf dL_law_783 (fun v101 hf => ?_)
  refine z_aload_n 3 dL_law_784 rfl rfl ?_
  refine z_iload_n 2 dL_law_785 rfl rfl ?_
  refine z_iconst 4 4 dL_law_786 (by decide) ?_
  refine z_iadd dL_law_787 ?_
  refine z_sld hS hf dL_law_788 (fun v102 hf => ?_)
  refine z_aload_n 3 dL_law_789 rfl rfl ?_
  refine z_iload_n 2 dL_law_790 rfl rfl ?_
  refine z_iconst 5 5 dL_law_791 (by decide) ?_
  refine z_iadd dL_law_792 ?_
  refine z_sld hS hf dL_law_793 (fun v103 hf => ?_)
  obtain ⟨v104, ev104, hf⟩ := ob hf
  refine z_cVi (ci := 11) (T := TX11) (N := 14) (As := [.int v99, .int v100, .int v101, .int v102, .int v103]) (rest := []) (zm_X11_copy ev104).2 (zm_X11_copy ev104).1 (by decide) rfl (Or.inr (tgl_le hE (le_L_law_797 hq18 hf))) mw_25_14 mw_25_15 mw_25_16 mw_1_2 mw_25_17 yk_X11_copy (by decide) (by decide) rfl (Nat.le_of_ble_eq_true rfl) rfl dL_law_794 ?_
  exact zb_L_law_797 hE hS hk18 hq18 hf
set_option maxRecDepth 20000 in
theorem le_L_law_850 {N L : Nat} {xs : Nat → Int32} {k18 : Nat → Nat → Int32 → AS → Option (Int32 × AS)} {r : Int32 × AS} (hk18 : ∀ (l1 : Nat) (l2 : Nat) (l3 : Int32) (s : AS), k18 l1 l2 l3 s = some r → Le s r.2) {l1 : Nat} {l2 : Nat} {l3 : Int32} {t0 : Int32} {s : AS} (hf : f_L_law_850 N L xs k18 l1 l2 l3 t0 s = some r) : Le s r.2 := by
  unfold f_L_law_850 at hf
  obtain ⟨v215, -, hf⟩ := ob hf
  obtain ⟨v216, -, hf⟩ := ob hf
  obtain ⟨v217, -, hf⟩ := ob hf
  obtain ⟨v218, -, hf⟩ := ob hf
  exact Le.via (le_L_law_1469 hk18 hf) rfl
set_option maxRecDepth 20000 in
theorem zb_L_law_850 {N L : Nat} {xs : Nat → Int32} {b : Nat} {k18 : Nat → Nat → Int32 → AS → Option (Int32 × AS)} {r : Int32 × AS} {E : EV} (hE : TGL E r) (hS : SX E b L xs) (hk18 : ∀ (l1 : Nat) (l2 : Nat) (l3 : Int32) (s : AS), k18 l1 l2 l3 s = some r → Z E yL_law cL_law 4 (some .boolean) 8 s 18 [(1, .ref l1), (2, .ref l2), (3, .int l3), (0, .ref b)] []) (hq18 : ∀ (l1 : Nat) (l2 : Nat) (l3 : Int32) (s : AS), k18 l1 l2 l3 s = some r → Le s r.2) {l1 : Nat} {l2 : Nat} {l3 : Int32} {t0 : Int32} {s : AS} (hf : f_L_law_850 N L xs k18 l1 l2 l3 t0 s = some r) : Z E yL_law cL_law 4 (some .boolean) 8 s 850 [(1, .ref l1), (2, .ref l2), (3, .int l3), (0, .ref b)] [.int t0] := by
  unfold f_L_law_850 at hf
  refine z_pop dL_law_850 rfl ?_
  refine z_aload_n 1 dL_law_851 rfl rfl ?_
  refine z_aload_n 3 dL_law_852 rfl rfl ?_
  refine z_iload_n 2 dL_law_853 rfl rfl ?_
  refine z_iconst 1 1 dL_law_854 (by decide) ?_
  refine z_iadd dL_law_855 ?_
  refine z_sld hS hf dL_law_856 (fun v215 hf => ?_)
  refine z_aload_n 3 dL_law_857 rfl rfl ?_
  refine z_iload_n 2 dL_law_858 rfl rfl ?_
  refine z_iconst 2 2 dL_law_859 (by decide) ?_
  refine z_iadd dL_law_860 ?_
  refine z_sld hS hf dL_law_861 (fun v216 hf => ?_)
  refine z_aload_n 3 dL_law_862 rfl rfl ?_
  refine z_iload_n 2 dL_law_863 rfl rfl ?_
  refine z_iconst 3 3 dL_law_864 (by decide) ?_
  refine z_iadd dL_law_865 ?_
  refine z_sld hS hf dL_law_866 (fun v217 hf => ?_)
  obtain ⟨v218, ev218, hf⟩ := ob hf
  refine z_cVi (ci := 12) (T := TX12) (N := 32) (As := [.int v215, .int v216, .int v217]) (rest := []) (zm_X12_copies ev218).2 (zm_X12_copies ev218).1 (by decide) rfl (Or.inl rfl) mw_26_22 mw_26_23 mw_27_0 mw_1_5 mw_27_1 yk_X12_copies (by decide) (by decide) rfl (Nat.le_of_ble_eq_true rfl) rfl dL_law_867 ?_
  refine z_pop dL_law_870 rfl ?_
  refine z_goto 1469 dL_law_871 (by decide) ?_
  exact zb_L_law_1469 hE hS hk18 hq18 hf
set_option maxRecDepth 20000 in
theorem le_L_law_831 {N L : Nat} {xs : Nat → Int32} {k18 : Nat → Nat → Int32 → AS → Option (Int32 × AS)} {r : Int32 × AS} (hk18 : ∀ (l1 : Nat) (l2 : Nat) (l3 : Int32) (s : AS), k18 l1 l2 l3 s = some r → Le s r.2) {l1 : Nat} {l2 : Nat} {l3 : Int32} {s : AS} (hf : f_L_law_831 N L xs k18 l1 l2 l3 s = some r) : Le s r.2 := by
  unfold f_L_law_831 at hf
  obtain ⟨v105, -, hf⟩ := ob hf
  obtain ⟨v106, -, hf⟩ := ob hf
  obtain ⟨v107, -, hf⟩ := ob hf
  obtain ⟨v108, ev108, hf⟩ := ob hf
  refine Le.of (t := (s.1, s.2)) rfl ((lm_X11_copies ev108).tr ?_)
  exact Le.via (le_L_law_850 hk18 hf) rfl
set_option maxRecDepth 20000 in
theorem zb_L_law_831 {N L : Nat} {xs : Nat → Int32} {b : Nat} {k18 : Nat → Nat → Int32 → AS → Option (Int32 × AS)} {r : Int32 × AS} {E : EV} (hE : TGL E r) (hS : SX E b L xs) (hk18 : ∀ (l1 : Nat) (l2 : Nat) (l3 : Int32) (s : AS), k18 l1 l2 l3 s = some r → Z E yL_law cL_law 4 (some .boolean) 8 s 18 [(1, .ref l1), (2, .ref l2), (3, .int l3), (0, .ref b)] []) (hq18 : ∀ (l1 : Nat) (l2 : Nat) (l3 : Int32) (s : AS), k18 l1 l2 l3 s = some r → Le s r.2) {l1 : Nat} {l2 : Nat} {l3 : Int32} {s : AS} (hf : f_L_law_831 N L xs k18 l1 l2 l3 s = some r) : Z E yL_law cL_law 4 (some .boolean) 8 s 831 [(1, .ref l1), (2, .ref l2), (3, .int l3), (0, .ref b)] [] := by
  unfold f_L_law_831 at hf
  refine z_aload_n 0 dL_law_831 rfl rfl ?_
  refine z_aload_n 3 dL_law_832 rfl rfl ?_
  refine z_iload_n 2 dL_law_833 rfl rfl ?_
  refine z_iconst 1 1 dL_law_834 (by decide) ?_
  refine z_iadd dL_law_835 ?_
  refine z_sld hS hf dL_law_836 (fun v105 hf => ?_)
  refine z_aload_n 3 dL_law_837 rfl rfl ?_
  refine z_iload_n 2 dL_law_838 rfl rfl ?_
  refine z_iconst 2 2 dL_law_839 (by decide) ?_
  refine z_iadd dL_law_840 ?_
  refine z_sld hS hf dL_law_841 (fun v106 hf => ?_)
  refine z_aload_n 3 dL_law_842 rfl rfl ?_
  refine z_iload_n 2 dL_law_843 rfl rfl ?_
  refine z_iconst 3 3 dL_law_844 (by decide) ?_
  refine z_iadd dL_law_845 ?_
  refine z_sld hS hf dL_law_846 (fun v107 hf => ?_)
  obtain ⟨v108, ev108, hf⟩ := ob hf
  refine z_cVi (ci := 11) (T := TX11) (N := 14) (As := [.int v105, .int v106, .int v107]) (rest := []) (zm_X11_copies ev108).2 (zm_X11_copies ev108).1 (by decide) rfl (Or.inr (tgl_le hE (le_L_law_850 hq18 hf))) mw_26_18 mw_26_19 mw_26_20 mw_1_2 mw_26_21 yk_X11_copies (by decide) (by decide) rfl (Nat.le_of_ble_eq_true rfl) rfl dL_law_847 ?_
  exact zb_L_law_850 hE hS hk18 hq18 hf
set_option maxRecDepth 20000 in
theorem le_L_law_883 {N L : Nat} {xs : Nat → Int32} {k18 : Nat → Nat → Int32 → AS → Option (Int32 × AS)} {r : Int32 × AS} (hk18 : ∀ (l1 : Nat) (l2 : Nat) (l3 : Int32) (s : AS), k18 l1 l2 l3 s = some r → Le s r.2) {l1 : Nat} {l2 : Nat} {l3 : Int32} {t0 : Int32} {s : AS} (hf : f_L_law_883 N L xs k18 l1 l2 l3 t0 s = some r) : Le s r.2 := by
  unfold f_L_law_883 at hf
  obtain ⟨v219, -, hf⟩ := ob hf
  obtain ⟨v220, -, hf⟩ := ob hf
  exact Le.via (le_L_law_1469 hk18 hf) rfl
set_option maxRecDepth 20000 in
theorem zb_L_law_883 {N L : Nat} {xs : Nat → Int32} {b : Nat} {k18 : Nat → Nat → Int32 → AS → Option (Int32 × AS)} {r : Int32 × AS} {E : EV} (hE : TGL E r) (hS : SX E b L xs) (hk18 : ∀ (l1 : Nat) (l2 : Nat) (l3 : Int32) (s : AS), k18 l1 l2 l3 s = some r → Z E yL_law cL_law 4 (some .boolean) 8 s 18 [(1, .ref l1), (2, .ref l2), (3, .int l3), (0, .ref b)] []) (hq18 : ∀ (l1 : Nat) (l2 : Nat) (l3 : Int32) (s : AS), k18 l1 l2 l3 s = some r → Le s r.2) {l1 : Nat} {l2 : Nat} {l3 : Int32} {t0 : Int32} {s : AS} (hf : f_L_law_883 N L xs k18 l1 l2 l3 t0 s = some r) : Z E yL_law cL_law 4 (some .boolean) 8 s 883 [(1, .ref l1), (2, .ref l2), (3, .int l3), (0, .ref b)] [.int t0] := by
  unfold f_L_law_883 at hf
  refine z_pop dL_law_883 rfl ?_
  refine z_aload_n 1 dL_law_884 rfl rfl ?_
  refine z_aload_n 3 dL_law_885 rfl rfl ?_
  refine z_iload_n 2 dL_law_886 rfl rfl ?_
  refine z_iconst 1 1 dL_law_887 (by decide) ?_
  refine z_iadd dL_law_888 ?_
  refine z_sld hS hf dL_law_889 (fun v219 hf => ?_)
  obtain ⟨v220, ev220, hf⟩ := ob hf
  refine z_cVi (ci := 12) (T := TX12) (N := 32) (As := [.int v219]) (rest := []) (zm_X12_snow ev220).2 (zm_X12_snow ev220).1 (by decide) rfl (Or.inl rfl) mw_28_4 mw_28_5 mw_28_6 mw_1_5 mw_28_7 yk_X12_snow (by decide) (by decide) rfl (Nat.le_of_ble_eq_true rfl) rfl dL_law_890 ?_
  refine z_pop dL_law_893 rfl ?_
  refine z_goto 1469 dL_law_894 (by decide) ?_
  exact zb_L_law_1469 hE hS hk18 hq18 hf
set_option maxRecDepth 20000 in
theorem le_L_law_874 {N L : Nat} {xs : Nat → Int32} {k18 : Nat → Nat → Int32 → AS → Option (Int32 × AS)} {r : Int32 × AS} (hk18 : ∀ (l1 : Nat) (l2 : Nat) (l3 : Int32) (s : AS), k18 l1 l2 l3 s = some r → Le s r.2) {l1 : Nat} {l2 : Nat} {l3 : Int32} {s : AS} (hf : f_L_law_874 N L xs k18 l1 l2 l3 s = some r) : Le s r.2 := by
  unfold f_L_law_874 at hf
  obtain ⟨v109, -, hf⟩ := ob hf
  obtain ⟨v110, ev110, hf⟩ := ob hf
  refine Le.of (t := (s.1, s.2)) rfl ((lm_X11_snow ev110).tr ?_)
  exact Le.via (le_L_law_883 hk18 hf) rfl
set_option maxRecDepth 20000 in
theorem zb_L_law_874 {N L : Nat} {xs : Nat → Int32} {b : Nat} {k18 : Nat → Nat → Int32 → AS → Option (Int32 × AS)} {r : Int32 × AS} {E : EV} (hE : TGL E r) (hS : SX E b L xs) (hk18 : ∀ (l1 : Nat) (l2 : Nat) (l3 : Int32) (s : AS), k18 l1 l2 l3 s = some r → Z E yL_law cL_law 4 (some .boolean) 8 s 18 [(1, .ref l1), (2, .ref l2), (3, .int l3), (0, .ref b)] []) (hq18 : ∀ (l1 : Nat) (l2 : Nat) (l3 : Int32) (s : AS), k18 l1 l2 l3 s = some r → Le s r.2) {l1 : Nat} {l2 : Nat} {l3 : Int32} {s : AS} (hf : f_L_law_874 N L xs k18 l1 l2 l3 s = some r) : Z E yL_law cL_law 4 (some .boolean) 8 s 874 [(1, .ref l1), (2, .ref l2), (3, .int l3), (0, .ref b)] [] := by
  unfold f_L_law_874 at hf
  refine z_aload_n 0 dL_law_874 rfl rfl ?_
  refine z_aload_n 3 dL_law_875 rfl rfl ?_
  refine z_iload_n 2 dL_law_876 rfl rfl ?_
  refine z_iconst 1 1 dL_law_877 (by decide) ?_
  refine z_iadd dL_law_878 ?_
  refine z_sld hS hf dL_law_879 (fun v109 hf => ?_)
  obtain ⟨v110, ev110, hf⟩ := ob hf
  refine z_cVi (ci := 11) (T := TX11) (N := 14) (As := [.int v109]) (rest := []) (zm_X11_snow ev110).2 (zm_X11_snow ev110).1 (by decide) rfl (Or.inr (tgl_le hE (le_L_law_883 hq18 hf))) mw_27_2 mw_27_3 mw_27_4 mw_1_2 mw_27_5 yk_X11_snow (by decide) (by decide) rfl (Nat.le_of_ble_eq_true rfl) rfl dL_law_880 ?_
  exact zb_L_law_883 hE hS hk18 hq18 hf
set_option maxRecDepth 20000 in
theorem le_L_law_911 {N L : Nat} {xs : Nat → Int32} {k18 : Nat → Nat → Int32 → AS → Option (Int32 × AS)} {r : Int32 × AS} (hk18 : ∀ (l1 : Nat) (l2 : Nat) (l3 : Int32) (s : AS), k18 l1 l2 l3 s = some r → Le s r.2) {l1 : Nat} {l2 : Nat} {l3 : Int32} {t0 : Int32} {s : AS} (hf : f_L_law_911 N L xs k18 l1 l2 l3 t0 s = some r) : Le s r.2 := by
  unfold f_L_law_911 at hf
  obtain ⟨v221, -, hf⟩ := ob hf
  obtain ⟨v222, -, hf⟩ := ob hf
  obtain ⟨v223, -, hf⟩ := ob hf
  exact Le.via (le_L_law_1469 hk18 hf) rfl
set_option maxRecDepth 20000 in
theorem zb_L_law_911 {N L : Nat} {xs : Nat → Int32} {b : Nat} {k18 : Nat → Nat → Int32 → AS → Option (Int32 × AS)} {r : Int32 × AS} {E : EV} (hE : TGL E r) (hS : SX E b L xs) (hk18 : ∀ (l1 : Nat) (l2 : Nat) (l3 : Int32) (s : AS), k18 l1 l2 l3 s = some r → Z E yL_law cL_law 4 (some .boolean) 8 s 18 [(1, .ref l1), (2, .ref l2), (3, .int l3), (0, .ref b)] []) (hq18 : ∀ (l1 : Nat) (l2 : Nat) (l3 : Int32) (s : AS), k18 l1 l2 l3 s = some r → Le s r.2) {l1 : Nat} {l2 : Nat} {l3 : Int32} {t0 : Int32} {s : AS} (hf : f_L_law_911 N L xs k18 l1 l2 l3 t0 s = some r) : Z E yL_law cL_law 4 (some .boolean) 8 s 911 [(1, .ref l1), (2, .ref l2), (3, .int l3), (0, .ref b)] [.int t0] := by
  unfold f_L_law_911 at hf
  refine z_pop dL_law_911 rfl ?_
  refine z_aload_n 1 dL_law_912 rfl rfl ?_
  refine z_aload_n 3 dL_law_913 rfl rfl ?_
  refine z_iload_n 2 dL_law_914 rfl rfl ?_
  refine z_iconst 1 1 dL_law_915 (by decide) ?_
  refine z_iadd dL_law_916 ?_
  refine z_sld hS hf dL_law_917 (fun v221 hf => ?_)
  refine z_aload_n 3 dL_law_918 rfl rfl ?_
  refine z_iload_n 2 dL_law_919 rfl rfl ?_
  refine z_iconst 2 2 dL_law_920 (by decide) ?_
  refine z_iadd dL_law_921 ?_
  refine z_sld hS hf dL_law_922 (fun v222 hf => ?_)
  obtain ⟨v223, ev223, hf⟩ := ob hf
  refine z_cVi (ci := 12) (T := TX12) (N := 32) (As := [.int v221, .int v222]) (rest := []) (zm_X12_melt ev223).2 (zm_X12_melt ev223).1 (by decide) rfl (Or.inl rfl) mw_29_4 mw_29_5 mw_29_6 mw_1_5 mw_29_7 yk_X12_melt (by decide) (by decide) rfl (Nat.le_of_ble_eq_true rfl) rfl dL_law_923 ?_
  refine z_pop dL_law_926 rfl ?_
  refine z_goto 1469 dL_law_927 (by decide) ?_
  exact zb_L_law_1469 hE hS hk18 hq18 hf
set_option maxRecDepth 20000 in
theorem le_L_law_897 {N L : Nat} {xs : Nat → Int32} {k18 : Nat → Nat → Int32 → AS → Option (Int32 × AS)} {r : Int32 × AS} (hk18 : ∀ (l1 : Nat) (l2 : Nat) (l3 : Int32) (s : AS), k18 l1 l2 l3 s = some r → Le s r.2) {l1 : Nat} {l2 : Nat} {l3 : Int32} {s : AS} (hf : f_L_law_897 N L xs k18 l1 l2 l3 s = some r) : Le s r.2 := by
  unfold f_L_law_897 at hf
  obtain ⟨v111, -, hf⟩ := ob hf
  obtain ⟨v112, -, hf⟩ := ob hf
  obtain ⟨v113, ev113, hf⟩ := ob hf
  refine Le.of (t := (s.1, s.2)) rfl ((lm_X11_melt ev113).tr ?_)
  exact Le.via (le_L_law_911 hk18 hf) rfl
set_option maxRecDepth 20000 in
theorem zb_L_law_897 {N L : Nat} {xs : Nat → Int32} {b : Nat} {k18 : Nat → Nat → Int32 → AS → Option (Int32 × AS)} {r : Int32 × AS} {E : EV} (hE : TGL E r) (hS : SX E b L xs) (hk18 : ∀ (l1 : Nat) (l2 : Nat) (l3 : Int32) (s : AS), k18 l1 l2 l3 s = some r → Z E yL_law cL_law 4 (some .boolean) 8 s 18 [(1, .ref l1), (2, .ref l2), (3, .int l3), (0, .ref b)] []) (hq18 : ∀ (l1 : Nat) (l2 : Nat) (l3 : Int32) (s : AS), k18 l1 l2 l3 s = some r → Le s r.2) {l1 : Nat} {l2 : Nat} {l3 : Int32} {s : AS} (hf : f_L_law_897 N L xs k18 l1 l2 l3 s = some r) : Z E yL_law cL_law 4 (some .boolean) 8 s 897 [(1, .ref l1), (2, .ref l2), (3, .int l3), (0, .ref b)] [] := by
  unfold f_L_law_897 at hf
  refine z_aload_n 0 dL_law_897 rfl rfl ?_
  refine z_aload_n 3 dL_law_898 rfl rfl ?_
  refine z_iload_n 2 dL_law_899 rfl rfl ?_
  refine z_iconst 1 1 dL_law_900 (by decide) ?_
  refine z_iadd dL_law_901 ?_
  refine z_sld hS hf dL_law_902 (fun v111 hf => ?_)
  refine z_aload_n 3 dL_law_903 rfl rfl ?_
  refine z_iload_n 2 dL_law_904 rfl rfl ?_
  refine z_iconst 2 2 dL_law_905 (by decide) ?_
  refine z_iadd dL_law_906 ?_
  refine z_sld hS hf dL_law_907 (fun v112 hf => ?_)
  obtain ⟨v113, ev113, hf⟩ := ob hf
  refine z_cVi (ci := 11) (T := TX11) (N := 14) (As := [.int v111, .int v112]) (rest := []) (zm_X11_melt ev113).2 (zm_X11_melt ev113).1 (by decide) rfl (Or.inr (tgl_le hE (le_L_law_911 hq18 hf))) mw_28_16 mw_28_17 mw_28_18 mw_1_2 mw_28_19 yk_X11_melt (by decide) (by decide) rfl (Nat.le_of_ble_eq_true rfl) rfl dL_law_908 ?_
  exact zb_L_law_911 hE hS hk18 hq18 hf
set_option maxRecDepth 20000 in
theorem le_L_law_944 {N L : Nat} {xs : Nat → Int32} {k18 : Nat → Nat → Int32 → AS → Option (Int32 × AS)} {r : Int32 × AS} (hk18 : ∀ (l1 : Nat) (l2 : Nat) (l3 : Int32) (s : AS), k18 l1 l2 l3 s = some r → Le s r.2) {l1 : Nat} {l2 : Nat} {l3 : Int32} {t0 : Int32} {s : AS} (hf : f_L_law_944 N L xs k18 l1 l2 l3 t0 s = some r) : Le s r.2 := by
  unfold f_L_law_944 at hf
  obtain ⟨v224, -, hf⟩ := ob hf
  obtain ⟨v225, -, hf⟩ := ob hf
  obtain ⟨v226, -, hf⟩ := ob hf
  exact Le.via (le_L_law_1469 hk18 hf) rfl
set_option maxRecDepth 20000 in
theorem zb_L_law_944 {N L : Nat} {xs : Nat → Int32} {b : Nat} {k18 : Nat → Nat → Int32 → AS → Option (Int32 × AS)} {r : Int32 × AS} {E : EV} (hE : TGL E r) (hS : SX E b L xs) (hk18 : ∀ (l1 : Nat) (l2 : Nat) (l3 : Int32) (s : AS), k18 l1 l2 l3 s = some r → Z E yL_law cL_law 4 (some .boolean) 8 s 18 [(1, .ref l1), (2, .ref l2), (3, .int l3), (0, .ref b)] []) (hq18 : ∀ (l1 : Nat) (l2 : Nat) (l3 : Int32) (s : AS), k18 l1 l2 l3 s = some r → Le s r.2) {l1 : Nat} {l2 : Nat} {l3 : Int32} {t0 : Int32} {s : AS} (hf : f_L_law_944 N L xs k18 l1 l2 l3 t0 s = some r) : Z E yL_law cL_law 4 (some .boolean) 8 s 944 [(1, .ref l1), (2, .ref l2), (3, .int l3), (0, .ref b)] [.int t0] := by
  unfold f_L_law_944 at hf
  refine z_pop dL_law_944 rfl ?_
  refine z_aload_n 1 dL_law_945 rfl rfl ?_
  refine z_aload_n 3 dL_law_946 rfl rfl ?_
  refine z_iload_n 2 dL_law_947 rfl rfl ?_
  refine z_iconst 1 1 dL_law_948 (by decide) ?_
  refine z_iadd dL_law_949 ?_
  refine z_sld hS hf dL_law_950 (fun v224 hf => ?_)
  refine z_aload_n 3 dL_law_951 rfl rfl ?_
  refine z_iload_n 2 dL_law_952 rfl rfl ?_
  refine z_iconst 2 2 dL_law_953 (by decide) ?_
  refine z_iadd dL_law_954 ?_
  refine z_sld hS hf dL_law_955 (fun v225 hf => ?_)
  obtain ⟨v226, ev226, hf⟩ := ob hf
  refine z_cVi (ci := 12) (T := TX12) (N := 32) (As := [.int v224, .int v225]) (rest := []) (zm_X12_plough ev226).2 (zm_X12_plough ev226).1 (by decide) rfl (Or.inl rfl) mw_30_22 mw_30_23 mw_31_0 mw_1_5 mw_31_1 yk_X12_plough (by decide) (by decide) rfl (Nat.le_of_ble_eq_true rfl) rfl dL_law_956 ?_
  refine z_pop dL_law_959 rfl ?_
  refine z_goto 1469 dL_law_960 (by decide) ?_
  exact zb_L_law_1469 hE hS hk18 hq18 hf
set_option maxRecDepth 20000 in
theorem le_L_law_930 {N L : Nat} {xs : Nat → Int32} {k18 : Nat → Nat → Int32 → AS → Option (Int32 × AS)} {r : Int32 × AS} (hk18 : ∀ (l1 : Nat) (l2 : Nat) (l3 : Int32) (s : AS), k18 l1 l2 l3 s = some r → Le s r.2) {l1 : Nat} {l2 : Nat} {l3 : Int32} {s : AS} (hf : f_L_law_930 N L xs k18 l1 l2 l3 s = some r) : Le s r.2 := by
  unfold f_L_law_930 at hf
  obtain ⟨v114, -, hf⟩ := ob hf
  obtain ⟨v115, -, hf⟩ := ob hf
  obtain ⟨v116, ev116, hf⟩ := ob hf
  refine Le.of (t := (s.1, s.2)) rfl ((lm_X11_plough ev116).tr ?_)
  exact Le.via (le_L_law_944 hk18 hf) rfl
set_option maxRecDepth 20000 in
theorem zb_L_law_930 {N L : Nat} {xs : Nat → Int32} {b : Nat} {k18 : Nat → Nat → Int32 → AS → Option (Int32 × AS)} {r : Int32 × AS} {E : EV} (hE : TGL E r) (hS : SX E b L xs) (hk18 : ∀ (l1 : Nat) (l2 : Nat) (l3 : Int32) (s : AS), k18 l1 l2 l3 s = some r → Z E yL_law cL_law 4 (some .boolean) 8 s 18 [(1, .ref l1), (2, .ref l2), (3, .int l3), (0, .ref b)] []) (hq18 : ∀ (l1 : Nat) (l2 : Nat) (l3 : Int32) (s : AS), k18 l1 l2 l3 s = some r → Le s r.2) {l1 : Nat} {l2 : Nat} {l3 : Int32} {s : AS} (hf : f_L_law_930 N L xs k18 l1 l2 l3 s = some r) : Z E yL_law cL_law 4 (some .boolean) 8 s 930 [(1, .ref l1), (2, .ref l2), (3, .int l3), (0, .ref b)] [] := by
  unfold f_L_law_930 at hf
  refine z_aload_n 0 dL_law_930 rfl rfl ?_
  refine z_aload_n 3 dL_law_931 rfl rfl ?_
  refine z_iload_n 2 dL_law_932 rfl rfl ?_
  refine z_iconst 1 1 dL_law_933 (by decide) ?_
  refine z_iadd dL_law_934 ?_
  refine z_sld hS hf dL_law_935 (fun v114 hf => ?_)
  refine z_aload_n 3 dL_law_936 rfl rfl ?_
  refine z_iload_n 2 dL_law_937 rfl rfl ?_
  refine z_iconst 2 2 dL_law_938 (by decide) ?_
  refine z_iadd dL_law_939 ?_
  refine z_sld hS hf dL_law_940 (fun v115 hf => ?_)
  obtain ⟨v116, ev116, hf⟩ := ob hf
  refine z_cVi (ci := 11) (T := TX11) (N := 14) (As := [.int v114, .int v115]) (rest := []) (zm_X11_plough ev116).2 (zm_X11_plough ev116).1 (by decide) rfl (Or.inr (tgl_le hE (le_L_law_944 hq18 hf))) mw_29_12 mw_29_13 mw_29_14 mw_1_2 mw_29_15 yk_X11_plough (by decide) (by decide) rfl (Nat.le_of_ble_eq_true rfl) rfl dL_law_941 ?_
  exact zb_L_law_944 hE hS hk18 hq18 hf
set_option maxRecDepth 20000 in
theorem le_L_law_982 {N L : Nat} {xs : Nat → Int32} {k18 : Nat → Nat → Int32 → AS → Option (Int32 × AS)} {r : Int32 × AS} (hk18 : ∀ (l1 : Nat) (l2 : Nat) (l3 : Int32) (s : AS), k18 l1 l2 l3 s = some r → Le s r.2) {l1 : Nat} {l2 : Nat} {l3 : Int32} {t0 : Int32} {s : AS} (hf : f_L_law_982 N L xs k18 l1 l2 l3 t0 s = some r) : Le s r.2 := by
  unfold f_L_law_982 at hf
  obtain ⟨v227, -, hf⟩ := ob hf
  obtain ⟨v228, -, hf⟩ := ob hf
  obtain ⟨v229, -, hf⟩ := ob hf
  obtain ⟨v230, -, hf⟩ := ob hf
  exact Le.via (le_L_law_1469 hk18 hf) rfl
set_option maxRecDepth 20000 in
theorem zb_L_law_982 {N L : Nat} {xs : Nat → Int32} {b : Nat} {k18 : Nat → Nat → Int32 → AS → Option (Int32 × AS)} {r : Int32 × AS} {E : EV} (hE : TGL E r) (hS : SX E b L xs) (hk18 : ∀ (l1 : Nat) (l2 : Nat) (l3 : Int32) (s : AS), k18 l1 l2 l3 s = some r → Z E yL_law cL_law 4 (some .boolean) 8 s 18 [(1, .ref l1), (2, .ref l2), (3, .int l3), (0, .ref b)] []) (hq18 : ∀ (l1 : Nat) (l2 : Nat) (l3 : Int32) (s : AS), k18 l1 l2 l3 s = some r → Le s r.2) {l1 : Nat} {l2 : Nat} {l3 : Int32} {t0 : Int32} {s : AS} (hf : f_L_law_982 N L xs k18 l1 l2 l3 t0 s = some r) : Z E yL_law cL_law 4 (some .boolean) 8 s 982 [(1, .ref l1), (2, .ref l2), (3, .int l3), (0, .ref b)] [.int t0] := by
  unfold f_L_law_982 at hf
  refine z_pop dL_law_982 rfl ?_
  refine z_aload_n 1 dL_law_983 rfl rfl ?_
  refine z_aload_n 3 dL_law_984 rfl rfl ?_
  refine z_iload_n 2 dL_law_985 rfl rfl ?_
  refine z_iconst 1 1 dL_law_986 (by decide) ?_
  refine z_iadd dL_law_987 ?_
  refine z_sld hS hf dL_law_988 (fun v227 hf => ?_)
  refine z_aload_n 3 dL_law_989 rfl rfl ?_
  refine z_iload_n 2 dL_law_990 rfl rfl ?_
  refine z_iconst 2 2 dL_law_991 (by decide) ?_
  refine z_iadd dL_law_992 ?_
  refine z_sld hS hf dL_law_993 (fun v228 hf => ?_)
  refine z_aload_n 3 dL_law_994 rfl rfl ?_
  refine z_iload_n 2 dL_law_995 rfl rfl ?_
  refine z_iconst 3 3 dL_law_996 (by decide) ?_
  refine z_iadd dL_law_997 ?_
  refine z_sld hS hf dL_law_998 (fun v229 hf => ?_)
  obtain ⟨v230, ev230, hf⟩ := ob hf
  refine z_cVi (ci := 12) (T := TX12) (N := 32) (As := [.int v227, .int v228, .int v229]) (rest := []) (zm_X12_pair ev230).2 (zm_X12_pair ev230).1 (by decide) rfl (Or.inl rfl) mw_32_19 mw_32_20 mw_32_21 mw_1_5 mw_32_22 yk_X12_pair (by decide) (by decide) rfl (Nat.le_of_ble_eq_true rfl) rfl dL_law_999 ?_
  refine z_pop dL_law_1002 rfl ?_
  refine z_goto 1469 dL_law_1003 (by decide) ?_
  exact zb_L_law_1469 hE hS hk18 hq18 hf
set_option maxRecDepth 20000 in
theorem le_L_law_963 {N L : Nat} {xs : Nat → Int32} {k18 : Nat → Nat → Int32 → AS → Option (Int32 × AS)} {r : Int32 × AS} (hk18 : ∀ (l1 : Nat) (l2 : Nat) (l3 : Int32) (s : AS), k18 l1 l2 l3 s = some r → Le s r.2) {l1 : Nat} {l2 : Nat} {l3 : Int32} {s : AS} (hf : f_L_law_963 N L xs k18 l1 l2 l3 s = some r) : Le s r.2 := by
  unfold f_L_law_963 at hf
  obtain ⟨v117, -, hf⟩ := ob hf
  obtain ⟨v118, -, hf⟩ := ob hf
  obtain ⟨v119, -, hf⟩ := ob hf
  obtain ⟨v120, ev120, hf⟩ := ob hf
  refine Le.of (t := (s.1, s.2)) rfl ((lm_X11_pair ev120).tr ?_)
  exact Le.via (le_L_law_982 hk18 hf) rfl
set_option maxRecDepth 20000 in
theorem zb_L_law_963 {N L : Nat} {xs : Nat → Int32} {b : Nat} {k18 : Nat → Nat → Int32 → AS → Option (Int32 × AS)} {r : Int32 × AS} {E : EV} (hE : TGL E r) (hS : SX E b L xs) (hk18 : ∀ (l1 : Nat) (l2 : Nat) (l3 : Int32) (s : AS), k18 l1 l2 l3 s = some r → Z E yL_law cL_law 4 (some .boolean) 8 s 18 [(1, .ref l1), (2, .ref l2), (3, .int l3), (0, .ref b)] []) (hq18 : ∀ (l1 : Nat) (l2 : Nat) (l3 : Int32) (s : AS), k18 l1 l2 l3 s = some r → Le s r.2) {l1 : Nat} {l2 : Nat} {l3 : Int32} {s : AS} (hf : f_L_law_963 N L xs k18 l1 l2 l3 s = some r) : Z E yL_law cL_law 4 (some .boolean) 8 s 963 [(1, .ref l1), (2, .ref l2), (3, .int l3), (0, .ref b)] [] := by
  unfold f_L_law_963 at hf
  refine z_aload_n 0 dL_law_963 rfl rfl ?_
  refine z_aload_n 3 dL_law_964 rfl rfl ?_
  refine z_iload_n 2 dL_law_965 rfl rfl ?_
  refine z_iconst 1 1 dL_law_966 (by decide) ?_
  refine z_iadd dL_law_967 ?_
  refine z_sld hS hf dL_law_968 (fun v117 hf => ?_)
  refine z_aload_n 3 dL_law_969 rfl rfl ?_
  refine z_iload_n 2 dL_law_970 rfl rfl ?_
  refine z_iconst 2 2 dL_law_971 (by decide) ?_
  refine z_iadd dL_law_972 ?_
  refine z_sld hS hf dL_law_973 (fun v118 hf => ?_)
  refine z_aload_n 3 dL_law_974 rfl rfl ?_
  refine z_iload_n 2 dL_law_975 rfl rfl ?_
  refine z_iconst 3 3 dL_law_976 (by decide) ?_
  refine z_iadd dL_law_977 ?_
  refine z_sld hS hf dL_law_978 (fun v119 hf => ?_)
  obtain ⟨v120, ev120, hf⟩ := ob hf
  refine z_cVi (ci := 11) (T := TX11) (N := 14) (As := [.int v117, .int v118, .int v119]) (rest := []) (zm_X11_pair ev120).2 (zm_X11_pair ev120).1 (by decide) rfl (Or.inr (tgl_le hE (le_L_law_982 hq18 hf))) mw_31_10 mw_31_11 mw_31_12 mw_1_2 mw_31_13 yk_X11_pair (by decide) (by decide) rfl (Nat.le_of_ble_eq_true rfl) rfl dL_law_979 ?_
  exact zb_L_law_982 hE hS hk18 hq18 hf
set_option maxRecDepth 20000 in
theorem le_L_law_1015 {N L : Nat} {xs : Nat → Int32} {k18 : Nat → Nat → Int32 → AS → Option (Int32 × AS)} {r : Int32 × AS} (hk18 : ∀ (l1 : Nat) (l2 : Nat) (l3 : Int32) (s : AS), k18 l1 l2 l3 s = some r → Le s r.2) {l1 : Nat} {l2 : Nat} {l3 : Int32} {t0 : Int32} {s : AS} (hf : f_L_law_1015 N L xs k18 l1 l2 l3 t0 s = some r) : Le s r.2 := by
  unfold f_L_law_1015 at hf
  obtain ⟨v231, -, hf⟩ := ob hf
  obtain ⟨v232, -, hf⟩ := ob hf
  exact Le.via (le_L_law_1469 hk18 hf) rfl
set_option maxRecDepth 20000 in
theorem zb_L_law_1015 {N L : Nat} {xs : Nat → Int32} {b : Nat} {k18 : Nat → Nat → Int32 → AS → Option (Int32 × AS)} {r : Int32 × AS} {E : EV} (hE : TGL E r) (hS : SX E b L xs) (hk18 : ∀ (l1 : Nat) (l2 : Nat) (l3 : Int32) (s : AS), k18 l1 l2 l3 s = some r → Z E yL_law cL_law 4 (some .boolean) 8 s 18 [(1, .ref l1), (2, .ref l2), (3, .int l3), (0, .ref b)] []) (hq18 : ∀ (l1 : Nat) (l2 : Nat) (l3 : Int32) (s : AS), k18 l1 l2 l3 s = some r → Le s r.2) {l1 : Nat} {l2 : Nat} {l3 : Int32} {t0 : Int32} {s : AS} (hf : f_L_law_1015 N L xs k18 l1 l2 l3 t0 s = some r) : Z E yL_law cL_law 4 (some .boolean) 8 s 1015 [(1, .ref l1), (2, .ref l2), (3, .int l3), (0, .ref b)] [.int t0] := by
  unfold f_L_law_1015 at hf
  refine z_pop dL_law_1015 rfl ?_
  refine z_aload_n 1 dL_law_1016 rfl rfl ?_
  refine z_aload_n 3 dL_law_1017 rfl rfl ?_
  refine z_iload_n 2 dL_law_1018 rfl rfl ?_
  refine z_iconst 1 1 dL_law_1019 (by decide) ?_
  refine z_iadd dL_law_1020 ?_
  refine z_sld hS hf dL_law_1021 (fun v231 hf => ?_)
  obtain ⟨v232, ev232, hf⟩ := ob hf
  refine z_cVi (ci := 12) (T := TX12) (N := 32) (As := [.int v231]) (rest := []) (zm_X12_out ev232).2 (zm_X12_out ev232).1 (by decide) rfl (Or.inl rfl) mw_33_19 mw_33_20 mw_33_21 mw_1_5 mw_33_22 yk_X12_out (by decide) (by decide) rfl (Nat.le_of_ble_eq_true rfl) rfl dL_law_1022 ?_
  refine z_pop dL_law_1025 rfl ?_
  refine z_goto 1469 dL_law_1026 (by decide) ?_
  exact zb_L_law_1469 hE hS hk18 hq18 hf
set_option maxRecDepth 20000 in
theorem le_L_law_1006 {N L : Nat} {xs : Nat → Int32} {k18 : Nat → Nat → Int32 → AS → Option (Int32 × AS)} {r : Int32 × AS} (hk18 : ∀ (l1 : Nat) (l2 : Nat) (l3 : Int32) (s : AS), k18 l1 l2 l3 s = some r → Le s r.2) {l1 : Nat} {l2 : Nat} {l3 : Int32} {s : AS} (hf : f_L_law_1006 N L xs k18 l1 l2 l3 s = some r) : Le s r.2 := by
  unfold f_L_law_1006 at hf
  obtain ⟨v121, -, hf⟩ := ob hf
  obtain ⟨v122, ev122, hf⟩ := ob hf
  refine Le.of (t := (s.1, s.2)) rfl ((lm_X11_out ev122).tr ?_)
  exact Le.via (le_L_law_1015 hk18 hf) rfl
set_option maxRecDepth 20000 in
theorem zb_L_law_1006 {N L : Nat} {xs : Nat → Int32} {b : Nat} {k18 : Nat → Nat → Int32 → AS → Option (Int32 × AS)} {r : Int32 × AS} {E : EV} (hE : TGL E r) (hS : SX E b L xs) (hk18 : ∀ (l1 : Nat) (l2 : Nat) (l3 : Int32) (s : AS), k18 l1 l2 l3 s = some r → Z E yL_law cL_law 4 (some .boolean) 8 s 18 [(1, .ref l1), (2, .ref l2), (3, .int l3), (0, .ref b)] []) (hq18 : ∀ (l1 : Nat) (l2 : Nat) (l3 : Int32) (s : AS), k18 l1 l2 l3 s = some r → Le s r.2) {l1 : Nat} {l2 : Nat} {l3 : Int32} {s : AS} (hf : f_L_law_1006 N L xs k18 l1 l2 l3 s = some r) : Z E yL_law cL_law 4 (some .boolean) 8 s 1006 [(1, .ref l1), (2, .ref l2), (3, .int l3), (0, .ref b)] [] := by
  unfold f_L_law_1006 at hf
  refine z_aload_n 0 dL_law_1006 rfl rfl ?_
  refine z_aload_n 3 dL_law_1007 rfl rfl ?_
  refine z_iload_n 2 dL_law_1008 rfl rfl ?_
  refine z_iconst 1 1 dL_law_1009 (by decide) ?_
  refine z_iadd dL_law_1010 ?_
  refine z_sld hS hf dL_law_1011 (fun v121 hf => ?_)
  obtain ⟨v122, ev122, hf⟩ := ob hf
  refine z_cVi (ci := 11) (T := TX11) (N := 14) (As := [.int v121]) (rest := []) (zm_X11_out ev122).2 (zm_X11_out ev122).1 (by decide) rfl (Or.inr (tgl_le hE (le_L_law_1015 hq18 hf))) mw_33_15 mw_33_16 mw_33_17 mw_1_2 mw_33_18 yk_X11_out (by decide) (by decide) rfl (Nat.le_of_ble_eq_true rfl) rfl dL_law_1012 ?_
  exact zb_L_law_1015 hE hS hk18 hq18 hf
set_option maxRecDepth 20000 in
theorem le_L_law_1029 {N L : Nat} {xs : Nat → Int32} {k18 : Nat → Nat → Int32 → AS → Option (Int32 × AS)} {r : Int32 × AS} (hk18 : ∀ (l1 : Nat) (l2 : Nat) (l3 : Int32) (s : AS), k18 l1 l2 l3 s = some r → Le s r.2) {l1 : Nat} {l2 : Nat} {l3 : Int32} {s : AS} (hf : f_L_law_1029 N L xs k18 l1 l2 l3 s = some r) : Le s r.2 := by
  unfold f_L_law_1029 at hf
  obtain ⟨v123, -, hf⟩ := ob hf
  obtain ⟨v124, -, hf⟩ := ob hf
  obtain ⟨v125, -, hf⟩ := ob hf
  obtain ⟨v126, -, hf⟩ := ob hf
  obtain ⟨v127, -, hf⟩ := ob hf
  obtain ⟨v128, -, hf⟩ := ob hf
  obtain ⟨v129, -, hf⟩ := ob hf
  obtain ⟨v130, -, hf⟩ := ob hf
  exact Le.via (le_L_law_1469 hk18 hf) rfl
set_option maxRecDepth 20000 in
theorem zb_L_law_1029 {N L : Nat} {xs : Nat → Int32} {b : Nat} {k18 : Nat → Nat → Int32 → AS → Option (Int32 × AS)} {r : Int32 × AS} {E : EV} (hE : TGL E r) (hS : SX E b L xs) (hk18 : ∀ (l1 : Nat) (l2 : Nat) (l3 : Int32) (s : AS), k18 l1 l2 l3 s = some r → Z E yL_law cL_law 4 (some .boolean) 8 s 18 [(1, .ref l1), (2, .ref l2), (3, .int l3), (0, .ref b)] []) (hq18 : ∀ (l1 : Nat) (l2 : Nat) (l3 : Int32) (s : AS), k18 l1 l2 l3 s = some r → Le s r.2) {l1 : Nat} {l2 : Nat} {l3 : Int32} {s : AS} (hf : f_L_law_1029 N L xs k18 l1 l2 l3 s = some r) : Z E yL_law cL_law 4 (some .boolean) 8 s 1029 [(1, .ref l1), (2, .ref l2), (3, .int l3), (0, .ref b)] [] := by
  unfold f_L_law_1029 at hf
  refine z_aload_n 0 dL_law_1029 rfl rfl ?_
  refine z_aload_n 3 dL_law_1030 rfl rfl ?_
  refine z_iload_n 2 dL_law_1031 rfl rfl ?_
  refine z_iconst 1 1 dL_law_1032 (by decide) ?_
  refine z_iadd dL_law_1033 ?_
  refine z_sld hS hf dL_law_1034 (fun v123 hf => ?_)
  refine z_aload_n 3 dL_law_1035 rfl rfl ?_
  refine z_iload_n 2 dL_law_1036 rfl rfl ?_
  refine z_iconst 2 2 dL_law_1037 (by decide) ?_
  refine z_iadd dL_law_1038 ?_
  refine z_sld hS hf dL_law_1039 (fun v124 hf => ?_)
  refine z_aload_n 3 dL_law_1040 rfl rfl ?_
  refine z_iload_n 2 dL_law_1041 rfl rfl ?_
  refine z_iconst 3 3 dL_law_1042 (by decide) ?_
  refine z_iadd dL_law_1043 ?_
  refine z_sld hS hf dL_law_1044 (fun v125 hf => ?_)
  obtain ⟨v126, ev126, hf⟩ := ob hf
  refine z_cVi (ci := 11) (T := TX11) (N := 14) (As := [.int v123, .int v124, .int v125]) (rest := []) (zm_X11_asks ev126).2 (zm_X11_asks ev126).1 (by decide) rfl (Or.inl rfl) mw_33_23 mw_34_0 mw_34_1 mw_1_2 mw_34_2 yk_X11_asks (by decide) (by decide) rfl (Nat.le_of_ble_eq_true rfl) rfl dL_law_1045 ?_
  refine z_pop dL_law_1048 rfl ?_
  refine z_aload_n 1 dL_law_1049 rfl rfl ?_
  refine z_aload_n 3 dL_law_1050 rfl rfl ?_
  refine z_iload_n 2 dL_law_1051 rfl rfl ?_
  refine z_iconst 1 1 dL_law_1052 (by decide) ?_
  refine z_iadd dL_law_1053 ?_
  refine z_sld hS hf dL_law_1054 (fun v127 hf => ?_)
  refine z_aload_n 3 dL_law_1055 rfl rfl ?_
  refine z_iload_n 2 dL_law_1056 rfl rfl ?_
  refine z_iconst 2 2 dL_law_1057 (by decide) ?_
  refine z_iadd dL_law_1058 ?_
  refine z_sld hS hf dL_law_1059 (fun v128 hf => ?_)
  refine z_aload_n 3 dL_law_1060 rfl rfl ?_
  refine z_iload_n 2 dL_law_1061 rfl rfl ?_
  refine z_iconst 3 3 dL_law_1062 (by decide) ?_
  refine z_iadd dL_law_1063 ?_
  refine z_sld hS hf dL_law_1064 (fun v129 hf => ?_)
  obtain ⟨v130, ev130, hf⟩ := ob hf
  refine z_cVi (ci := 12) (T := TX12) (N := 32) (As := [.int v127, .int v128, .int v129]) (rest := []) (zm_X12_asks ev130).2 (zm_X12_asks ev130).1 (by decide) rfl (Or.inl rfl) mw_37_1 mw_37_2 mw_37_3 mw_1_5 mw_37_4 yk_X12_asks (by decide) (by decide) rfl (Nat.le_of_ble_eq_true rfl) rfl dL_law_1065 ?_
  refine z_pop dL_law_1068 rfl ?_
  refine z_goto 1469 dL_law_1069 (by decide) ?_
  exact zb_L_law_1469 hE hS hk18 hq18 hf
set_option maxRecDepth 20000 in
theorem le_L_law_1086 {N L : Nat} {xs : Nat → Int32} {k18 : Nat → Nat → Int32 → AS → Option (Int32 × AS)} {r : Int32 × AS} (hk18 : ∀ (l1 : Nat) (l2 : Nat) (l3 : Int32) (s : AS), k18 l1 l2 l3 s = some r → Le s r.2) {l1 : Nat} {l2 : Nat} {l3 : Int32} {t0 : Int32} {s : AS} (hf : f_L_law_1086 N L xs k18 l1 l2 l3 t0 s = some r) : Le s r.2 := by
  unfold f_L_law_1086 at hf
  obtain ⟨v233, -, hf⟩ := ob hf
  obtain ⟨v234, -, hf⟩ := ob hf
  obtain ⟨v235, -, hf⟩ := ob hf
  exact Le.via (le_L_law_1469 hk18 hf) rfl
set_option maxRecDepth 20000 in
theorem zb_L_law_1086 {N L : Nat} {xs : Nat → Int32} {b : Nat} {k18 : Nat → Nat → Int32 → AS → Option (Int32 × AS)} {r : Int32 × AS} {E : EV} (hE : TGL E r) (hS : SX E b L xs) (hk18 : ∀ (l1 : Nat) (l2 : Nat) (l3 : Int32) (s : AS), k18 l1 l2 l3 s = some r → Z E yL_law cL_law 4 (some .boolean) 8 s 18 [(1, .ref l1), (2, .ref l2), (3, .int l3), (0, .ref b)] []) (hq18 : ∀ (l1 : Nat) (l2 : Nat) (l3 : Int32) (s : AS), k18 l1 l2 l3 s = some r → Le s r.2) {l1 : Nat} {l2 : Nat} {l3 : Int32} {t0 : Int32} {s : AS} (hf : f_L_law_1086 N L xs k18 l1 l2 l3 t0 s = some r) : Z E yL_law cL_law 4 (some .boolean) 8 s 1086 [(1, .ref l1), (2, .ref l2), (3, .int l3), (0, .ref b)] [.int t0] := by
  unfold f_L_law_1086 at hf
  refine z_pop dL_law_1086 rfl ?_
  refine z_aload_n 1 dL_law_1087 rfl rfl ?_
  refine z_aload_n 3 dL_law_1088 rfl rfl ?_
  refine z_iload_n 2 dL_law_1089 rfl rfl ?_
  refine z_iconst 1 1 dL_law_1090 (by decide) ?_
  refine z_iadd dL_law_1091 ?_
  refine z_sld hS hf dL_law_1092 (fun v233 hf => ?_)
  refine z_aload_n 3 dL_law_1093 rfl rfl ?_
  refine z_iload_n 2 dL_law_1094 rfl rfl ?_
  refine z_iconst 2 2 dL_law_1095 (by decide) ?_
  refine z_iadd dL_law_1096 ?_
  refine z_sld hS hf dL_law_1097 (fun v234 hf => ?_)
  obtain ⟨v235, ev235, hf⟩ := ob hf
  refine z_cVi (ci := 12) (T := TX12) (N := 32) (As := [.int v233, .int v234]) (rest := []) (zm_X12_salt ev235).2 (zm_X12_salt ev235).1 (by decide) rfl (Or.inl rfl) mw_39_1 mw_39_2 mw_39_3 mw_1_5 mw_39_4 yk_X12_salt (by decide) (by decide) rfl (Nat.le_of_ble_eq_true rfl) rfl dL_law_1098 ?_
  refine z_pop dL_law_1101 rfl ?_
  refine z_goto 1469 dL_law_1102 (by decide) ?_
  exact zb_L_law_1469 hE hS hk18 hq18 hf
set_option maxRecDepth 20000 in
theorem le_L_law_1072 {N L : Nat} {xs : Nat → Int32} {k18 : Nat → Nat → Int32 → AS → Option (Int32 × AS)} {r : Int32 × AS} (hk18 : ∀ (l1 : Nat) (l2 : Nat) (l3 : Int32) (s : AS), k18 l1 l2 l3 s = some r → Le s r.2) {l1 : Nat} {l2 : Nat} {l3 : Int32} {s : AS} (hf : f_L_law_1072 N L xs k18 l1 l2 l3 s = some r) : Le s r.2 := by
  unfold f_L_law_1072 at hf
  obtain ⟨v131, -, hf⟩ := ob hf
  obtain ⟨v132, -, hf⟩ := ob hf
  obtain ⟨v133, ev133, hf⟩ := ob hf
  refine Le.of (t := (s.1, s.2)) rfl ((lm_X11_salt ev133).tr ?_)
  exact Le.via (le_L_law_1086 hk18 hf) rfl
set_option maxRecDepth 20000 in
theorem zb_L_law_1072 {N L : Nat} {xs : Nat → Int32} {b : Nat} {k18 : Nat → Nat → Int32 → AS → Option (Int32 × AS)} {r : Int32 × AS} {E : EV} (hE : TGL E r) (hS : SX E b L xs) (hk18 : ∀ (l1 : Nat) (l2 : Nat) (l3 : Int32) (s : AS), k18 l1 l2 l3 s = some r → Z E yL_law cL_law 4 (some .boolean) 8 s 18 [(1, .ref l1), (2, .ref l2), (3, .int l3), (0, .ref b)] []) (hq18 : ∀ (l1 : Nat) (l2 : Nat) (l3 : Int32) (s : AS), k18 l1 l2 l3 s = some r → Le s r.2) {l1 : Nat} {l2 : Nat} {l3 : Int32} {s : AS} (hf : f_L_law_1072 N L xs k18 l1 l2 l3 s = some r) : Z E yL_law cL_law 4 (some .boolean) 8 s 1072 [(1, .ref l1), (2, .ref l2), (3, .int l3), (0, .ref b)] [] := by
  unfold f_L_law_1072 at hf
  refine z_aload_n 0 dL_law_1072 rfl rfl ?_
  refine z_aload_n 3 dL_law_1073 rfl rfl ?_
  refine z_iload_n 2 dL_law_1074 rfl rfl ?_
  refine z_iconst 1 1 dL_law_1075 (by decide) ?_
  refine z_iadd dL_law_1076 ?_
  refine z_sld hS hf dL_law_1077 (fun v131 hf => ?_)
  refine z_aload_n 3 dL_law_1078 rfl rfl ?_
  refine z_iload_n 2 dL_law_1079 rfl rfl ?_
  refine z_iconst 2 2 dL_law_1080 (by decide) ?_
  refine z_iadd dL_law_1081 ?_
  refine z_sld hS hf dL_law_1082 (fun v132 hf => ?_)
  obtain ⟨v133, ev133, hf⟩ := ob hf
  refine z_cVi (ci := 11) (T := TX11) (N := 14) (As := [.int v131, .int v132]) (rest := []) (zm_X11_salt ev133).2 (zm_X11_salt ev133).1 (by decide) rfl (Or.inr (tgl_le hE (le_L_law_1086 hq18 hf))) mw_38_20 mw_38_21 mw_38_22 mw_1_2 mw_38_23 yk_X11_salt (by decide) (by decide) rfl (Nat.le_of_ble_eq_true rfl) rfl dL_law_1083 ?_
  exact zb_L_law_1086 hE hS hk18 hq18 hf
set_option maxRecDepth 20000 in
theorem le_L_law_1105 {N L : Nat} {xs : Nat → Int32} {k18 : Nat → Nat → Int32 → AS → Option (Int32 × AS)} {r : Int32 × AS} (hk18 : ∀ (l1 : Nat) (l2 : Nat) (l3 : Int32) (s : AS), k18 l1 l2 l3 s = some r → Le s r.2) {l1 : Nat} {l2 : Nat} {l3 : Int32} {s : AS} (hf : f_L_law_1105 N L xs k18 l1 l2 l3 s = some r) : Le s r.2 := by
  unfold f_L_law_1105 at hf
  obtain ⟨v134, -, hf⟩ := ob hf
  obtain ⟨v135, -, hf⟩ := ob hf
  obtain ⟨v136, -, hf⟩ := ob hf
  obtain ⟨v137, -, hf⟩ := ob hf
  exact Le.via (le_L_law_1469 hk18 hf) rfl
set_option maxRecDepth 20000 in
theorem zb_L_law_1105 {N L : Nat} {xs : Nat → Int32} {b : Nat} {k18 : Nat → Nat → Int32 → AS → Option (Int32 × AS)} {r : Int32 × AS} {E : EV} (hE : TGL E r) (hS : SX E b L xs) (hk18 : ∀ (l1 : Nat) (l2 : Nat) (l3 : Int32) (s : AS), k18 l1 l2 l3 s = some r → Z E yL_law cL_law 4 (some .boolean) 8 s 18 [(1, .ref l1), (2, .ref l2), (3, .int l3), (0, .ref b)] []) (hq18 : ∀ (l1 : Nat) (l2 : Nat) (l3 : Int32) (s : AS), k18 l1 l2 l3 s = some r → Le s r.2) {l1 : Nat} {l2 : Nat} {l3 : Int32} {s : AS} (hf : f_L_law_1105 N L xs k18 l1 l2 l3 s = some r) : Z E yL_law cL_law 4 (some .boolean) 8 s 1105 [(1, .ref l1), (2, .ref l2), (3, .int l3), (0, .ref b)] [] := by
  unfold f_L_law_1105 at hf
  refine z_aload_n 0 dL_law_1105 rfl rfl ?_
  refine z_aload_n 3 dL_law_1106 rfl rfl ?_
  refine z_iload_n 2 dL_law_1107 rfl rfl ?_
  refine z_iconst 1 1 dL_law_1108 (by decide) ?_
  refine z_iadd dL_law_1109 ?_
  refine z_sld hS hf dL_law_1110 (fun v134 hf => ?_)
  obtain ⟨v135, ev135, hf⟩ := ob hf
  refine z_cVi (ci := 11) (T := TX11) (N := 14) (As := [.int v134]) (rest := []) (zm_X11_odd ev135).2 (zm_X11_odd ev135).1 (by decide) rfl (Or.inl rfl) mw_39_5 mw_39_6 mw_39_7 mw_1_2 mw_39_8 yk_X11_odd (by decide) (by decide) rfl (Nat.le_of_ble_eq_true rfl) rfl dL_law_1111 ?_
  refine z_pop dL_law_1114 rfl ?_
  refine z_aload_n 1 dL_law_1115 rfl rfl ?_
  refine z_aload_n 3 dL_law_1116 rfl rfl ?_
  refine z_iload_n 2 dL_law_1117 rfl rfl ?_
  refine z_iconst 1 1 dL_law_1118 (by decide) ?_
  refine z_iadd dL_law_1119 ?_
  refine z_sld hS hf dL_law_1120 (fun v136 hf => ?_)
  obtain ⟨v137, ev137, hf⟩ := ob hf
  refine z_cVi (ci := 12) (T := TX12) (N := 32) (As := [.int v136]) (rest := []) (zm_X12_odd ev137).2 (zm_X12_odd ev137).1 (by decide) rfl (Or.inl rfl) mw_40_4 mw_40_5 mw_40_6 mw_1_5 mw_40_7 yk_X12_odd (by decide) (by decide) rfl (Nat.le_of_ble_eq_true rfl) rfl dL_law_1121 ?_
  refine z_pop dL_law_1124 rfl ?_
  refine z_goto 1469 dL_law_1125 (by decide) ?_
  exact zb_L_law_1469 hE hS hk18 hq18 hf
set_option maxRecDepth 20000 in
theorem le_L_law_1137 {N L : Nat} {xs : Nat → Int32} {k18 : Nat → Nat → Int32 → AS → Option (Int32 × AS)} {r : Int32 × AS} (hk18 : ∀ (l1 : Nat) (l2 : Nat) (l3 : Int32) (s : AS), k18 l1 l2 l3 s = some r → Le s r.2) {l1 : Nat} {l2 : Nat} {l3 : Int32} {t0 : Int32} {s : AS} (hf : f_L_law_1137 N L xs k18 l1 l2 l3 t0 s = some r) : Le s r.2 := by
  unfold f_L_law_1137 at hf
  obtain ⟨v236, -, hf⟩ := ob hf
  obtain ⟨v237, -, hf⟩ := ob hf
  exact Le.via (le_L_law_1469 hk18 hf) rfl
set_option maxRecDepth 20000 in
theorem zb_L_law_1137 {N L : Nat} {xs : Nat → Int32} {b : Nat} {k18 : Nat → Nat → Int32 → AS → Option (Int32 × AS)} {r : Int32 × AS} {E : EV} (hE : TGL E r) (hS : SX E b L xs) (hk18 : ∀ (l1 : Nat) (l2 : Nat) (l3 : Int32) (s : AS), k18 l1 l2 l3 s = some r → Z E yL_law cL_law 4 (some .boolean) 8 s 18 [(1, .ref l1), (2, .ref l2), (3, .int l3), (0, .ref b)] []) (hq18 : ∀ (l1 : Nat) (l2 : Nat) (l3 : Int32) (s : AS), k18 l1 l2 l3 s = some r → Le s r.2) {l1 : Nat} {l2 : Nat} {l3 : Int32} {t0 : Int32} {s : AS} (hf : f_L_law_1137 N L xs k18 l1 l2 l3 t0 s = some r) : Z E yL_law cL_law 4 (some .boolean) 8 s 1137 [(1, .ref l1), (2, .ref l2), (3, .int l3), (0, .ref b)] [.int t0] := by
  unfold f_L_law_1137 at hf
  refine z_pop dL_law_1137 rfl ?_
  refine z_aload_n 1 dL_law_1138 rfl rfl ?_
  refine z_aload_n 3 dL_law_1139 rfl rfl ?_
  refine z_iload_n 2 dL_law_1140 rfl rfl ?_
  refine z_iconst 1 1 dL_law_1141 (by decide) ?_
  refine z_iadd dL_law_1142 ?_
  refine z_sld hS hf dL_law_1143 (fun v236 hf => ?_)
  obtain ⟨v237, ev237, hf⟩ := ob hf
  refine z_cVi (ci := 12) (T := TX12) (N := 32) (As := [.int v236]) (rest := []) (zm_X12_least ev237).2 (zm_X12_least ev237).1 (by decide) rfl (Or.inl rfl) mw_42_4 mw_42_5 mw_42_6 mw_1_5 mw_42_7 yk_X12_least (by decide) (by decide) rfl (Nat.le_of_ble_eq_true rfl) rfl dL_law_1144 ?_
  refine z_pop dL_law_1147 rfl ?_
  refine z_goto 1469 dL_law_1148 (by decide) ?_
  exact zb_L_law_1469 hE hS hk18 hq18 hf
set_option maxRecDepth 20000 in
theorem le_L_law_1128 {N L : Nat} {xs : Nat → Int32} {k18 : Nat → Nat → Int32 → AS → Option (Int32 × AS)} {r : Int32 × AS} (hk18 : ∀ (l1 : Nat) (l2 : Nat) (l3 : Int32) (s : AS), k18 l1 l2 l3 s = some r → Le s r.2) {l1 : Nat} {l2 : Nat} {l3 : Int32} {s : AS} (hf : f_L_law_1128 N L xs k18 l1 l2 l3 s = some r) : Le s r.2 := by
  unfold f_L_law_1128 at hf
  obtain ⟨v138, -, hf⟩ := ob hf
  obtain ⟨v139, ev139, hf⟩ := ob hf
  refine Le.of (t := (s.1, s.2)) rfl ((lm_X11_least ev139).tr ?_)
  exact Le.via (le_L_law_1137 hk18 hf) rfl
set_option maxRecDepth 20000 in
theorem zb_L_law_1128 {N L : Nat} {xs : Nat → Int32} {b : Nat} {k18 : Nat → Nat → Int32 → AS → Option (Int32 × AS)} {r : Int32 × AS} {E : EV} (hE : TGL E r) (hS : SX E b L xs) (hk18 : ∀ (l1 : Nat) (l2 : Nat) (l3 : Int32) (s : AS), k18 l1 l2 l3 s = some r → Z E yL_law cL_law 4 (some .boolean) 8 s 18 [(1, .ref l1), (2, .ref l2), (3, .int l3), (0, .ref b)] []) (hq18 : ∀ (l1 : Nat) (l2 : Nat) (l3 : Int32) (s : AS), k18 l1 l2 l3 s = some r → Le s r.2) {l1 : Nat} {l2 : Nat} {l3 : Int32} {s : AS} (hf : f_L_law_1128 N L xs k18 l1 l2 l3 s = some r) : Z E yL_law cL_law 4 (some .boolean) 8 s 1128 [(1, .ref l1), (2, .ref l2), (3, .int l3), (0, .ref b)] [] := by
  unfold f_L_law_1128 at hf
  refine z_aload_n 0 dL_law_1128 rfl rfl ?_
  refine z_aload_n 3 dL_law_1129 rfl rfl ?_
  refine z_iload_n 2 dL_law_1130 rfl rfl ?_
  refine z_iconst 1 1 dL_law_1131 (by decide) ?_
  refine z_iadd dL_law_1132 ?_
  refine z_sld hS hf dL_law_1133 (fun v138 hf => ?_)
  obtain ⟨v139, ev139, hf⟩ := ob hf
  refine z_cVi (ci := 11) (T := TX11) (N := 14) (As := [.int v138]) (rest := []) (zm_X11_least ev139).2 (zm_X11_least ev139).1 (by decide) rfl (Or.inr (tgl_le hE (le_L_law_1137 hq18 hf))) mw_40_21 mw_40_22 mw_40_23 mw_1_2 mw_41_0 yk_X11_least (by decide) (by decide) rfl (Nat.le_of_ble_eq_true rfl) rfl dL_law_1134 ?_
  exact zb_L_law_1137 hE hS hk18 hq18 hf
set_option maxRecDepth 20000 in
theorem le_L_law_1155 {N L : Nat} {xs : Nat → Int32} {k18 : Nat → Nat → Int32 → AS → Option (Int32 × AS)} {r : Int32 × AS} (hk18 : ∀ (l1 : Nat) (l2 : Nat) (l3 : Int32) (s : AS), k18 l1 l2 l3 s = some r → Le s r.2) {l1 : Nat} {l2 : Nat} {l3 : Int32} {t0 : Int32} {s : AS} (hf : f_L_law_1155 N L xs k18 l1 l2 l3 t0 s = some r) : Le s r.2 := by
  unfold f_L_law_1155 at hf
  obtain ⟨v238, -, hf⟩ := ob hf
  exact Le.via (le_L_law_1469 hk18 hf) rfl
set_option maxRecDepth 20000 in
theorem zb_L_law_1155 {N L : Nat} {xs : Nat → Int32} {b : Nat} {k18 : Nat → Nat → Int32 → AS → Option (Int32 × AS)} {r : Int32 × AS} {E : EV} (hE : TGL E r) (hS : SX E b L xs) (hk18 : ∀ (l1 : Nat) (l2 : Nat) (l3 : Int32) (s : AS), k18 l1 l2 l3 s = some r → Z E yL_law cL_law 4 (some .boolean) 8 s 18 [(1, .ref l1), (2, .ref l2), (3, .int l3), (0, .ref b)] []) (hq18 : ∀ (l1 : Nat) (l2 : Nat) (l3 : Int32) (s : AS), k18 l1 l2 l3 s = some r → Le s r.2) {l1 : Nat} {l2 : Nat} {l3 : Int32} {t0 : Int32} {s : AS} (hf : f_L_law_1155 N L xs k18 l1 l2 l3 t0 s = some r) : Z E yL_law cL_law 4 (some .boolean) 8 s 1155 [(1, .ref l1), (2, .ref l2), (3, .int l3), (0, .ref b)] [.int t0] := by
  unfold f_L_law_1155 at hf
  refine z_pop dL_law_1155 rfl ?_
  refine z_aload_n 1 dL_law_1156 rfl rfl ?_
  obtain ⟨v238, ev238, hf⟩ := ob hf
  refine z_cVi (ci := 12) (T := TX12) (N := 32) (As := []) (rest := []) (zm_X12_round ev238).2 (zm_X12_round ev238).1 (by decide) rfl (Or.inl rfl) mw_48_13 mw_48_14 mw_48_15 mw_1_5 mw_48_16 yk_X12_round (by decide) (by decide) rfl (Nat.le_of_ble_eq_true rfl) rfl dL_law_1157 ?_
  refine z_pop dL_law_1160 rfl ?_
  refine z_goto 1469 dL_law_1161 (by decide) ?_
  exact zb_L_law_1469 hE hS hk18 hq18 hf
set_option maxRecDepth 20000 in
theorem le_L_law_1151 {N L : Nat} {xs : Nat → Int32} {k18 : Nat → Nat → Int32 → AS → Option (Int32 × AS)} {r : Int32 × AS} (hk18 : ∀ (l1 : Nat) (l2 : Nat) (l3 : Int32) (s : AS), k18 l1 l2 l3 s = some r → Le s r.2) {l1 : Nat} {l2 : Nat} {l3 : Int32} {s : AS} (hf : f_L_law_1151 N L xs k18 l1 l2 l3 s = some r) : Le s r.2 := by
  unfold f_L_law_1151 at hf
  obtain ⟨v140, ev140, hf⟩ := ob hf
  refine Le.of (t := (s.1, s.2)) rfl ((lm_X11_round ev140).tr ?_)
  exact Le.via (le_L_law_1155 hk18 hf) rfl
set_option maxRecDepth 20000 in
theorem zb_L_law_1151 {N L : Nat} {xs : Nat → Int32} {b : Nat} {k18 : Nat → Nat → Int32 → AS → Option (Int32 × AS)} {r : Int32 × AS} {E : EV} (hE : TGL E r) (hS : SX E b L xs) (hk18 : ∀ (l1 : Nat) (l2 : Nat) (l3 : Int32) (s : AS), k18 l1 l2 l3 s = some r → Z E yL_law cL_law 4 (some .boolean) 8 s 18 [(1, .ref l1), (2, .ref l2), (3, .int l3), (0, .ref b)] []) (hq18 : ∀ (l1 : Nat) (l2 : Nat) (l3 : Int32) (s : AS), k18 l1 l2 l3 s = some r → Le s r.2) {l1 : Nat} {l2 : Nat} {l3 : Int32} {s : AS} (hf : f_L_law_1151 N L xs k18 l1 l2 l3 s = some r) : Z E yL_law cL_law 4 (some .boolean) 8 s 1151 [(1, .ref l1), (2, .ref l2), (3, .int l3), (0, .ref b)] [] := by
  unfold f_L_law_1151 at hf
  refine z_aload_n 0 dL_law_1151 rfl rfl ?_
  obtain ⟨v140, ev140, hf⟩ := ob hf
  refine z_cVi (ci := 11) (T := TX11) (N := 14) (As := []) (rest := []) (zm_X11_round ev140).2 (zm_X11_round ev140).1 (by decide) rfl (Or.inr (tgl_le hE (le_L_law_1155 hq18 hf))) mw_43_3 mw_43_4 mw_43_5 mw_1_2 mw_43_6 yk_X11_round (by decide) (by decide) rfl (Nat.le_of_ble_eq_true rfl) rfl dL_law_1152 ?_
  exact zb_L_law_1155 hE hS hk18 hq18 hf
set_option maxRecDepth 20000 in
theorem le_L_law_1164 {N L : Nat} {xs : Nat → Int32} {k18 : Nat → Nat → Int32 → AS → Option (Int32 × AS)} {r : Int32 × AS} (hk18 : ∀ (l1 : Nat) (l2 : Nat) (l3 : Int32) (s : AS), k18 l1 l2 l3 s = some r → Le s r.2) {l1 : Nat} {l2 : Nat} {l3 : Int32} {s : AS} (hf : f_L_law_1164 N L xs k18 l1 l2 l3 s = some r) : Le s r.2 := by
  unfold f_L_law_1164 at hf
  obtain ⟨v141, -, hf⟩ := ob hf
  obtain ⟨v142, -, hf⟩ := ob hf
  obtain ⟨v143, -, hf⟩ := ob hf
  obtain ⟨v144, -, hf⟩ := ob hf
  obtain ⟨v145, -, hf⟩ := ob hf
  obtain ⟨v146, -, hf⟩ := ob hf
  exact Le.via (le_L_law_1469 hk18 hf) rfl
set_option maxRecDepth 20000 in
theorem zb_L_law_1164 {N L : Nat} {xs : Nat → Int32} {b : Nat} {k18 : Nat → Nat → Int32 → AS → Option (Int32 × AS)} {r : Int32 × AS} {E : EV} (hE : TGL E r) (hS : SX E b L xs) (hk18 : ∀ (l1 : Nat) (l2 : Nat) (l3 : Int32) (s : AS), k18 l1 l2 l3 s = some r → Z E yL_law cL_law 4 (some .boolean) 8 s 18 [(1, .ref l1), (2, .ref l2), (3, .int l3), (0, .ref b)] []) (hq18 : ∀ (l1 : Nat) (l2 : Nat) (l3 : Int32) (s : AS), k18 l1 l2 l3 s = some r → Le s r.2) {l1 : Nat} {l2 : Nat} {l3 : Int32} {s : AS} (hf : f_L_law_1164 N L xs k18 l1 l2 l3 s = some r) : Z E yL_law cL_law 4 (some .boolean) 8 s 1164 [(1, .ref l1), (2, .ref l2), (3, .int l3), (0, .ref b)] [] := by
  unfold f_L_law_1164 at hf
  refine z_aload_n 0 dL_law_1164 rfl rfl ?_
  refine z_aload_n 3 dL_law_1165 rfl rfl ?_
  refine z_iload_n 2 dL_law_1166 rfl rfl ?_
  refine z_iconst 1 1 dL_law_1167 (by decide) ?_
  refine z_iadd dL_law_1168 ?_
  refine z_sld hS hf dL_law_1169 (fun v141 hf => ?_)
  refine z_aload_n 3 dL_law_1170 rfl rfl ?_
  refine z_iload_n 2 dL_law_1171 rfl rfl ?_
  refine z_iconst 2 2 dL_law_1172 (by decide) ?_
  refine z_iadd dL_law_1173 ?_
  refine z_sld hS hf dL_law_1174 (fun v142 hf => ?_)
  obtain ⟨v143, ev143, hf⟩ := ob hf
  refine z_cVi (ci := 11) (T := TX11) (N := 14) (As := [.int v141, .int v142]) (rest := []) (zm_X11_at ev143).2 (zm_X11_at ev143).1 (by decide) rfl (Or.inl rfl) mw_51_9 mw_51_10 mw_51_11 mw_1_2 mw_51_12 yk_X11_at (by decide) (by decide) rfl (Nat.le_of_ble_eq_true rfl) rfl dL_law_1175 ?_
  refine z_pop dL_law_1178 rfl ?_
  refine z_aload_n 1 dL_law_1179 rfl rfl ?_
  refine z_aload_n 3 dL_law_1180 rfl rfl ?_
  refine z_iload_n 2 dL_law_1181 rfl rfl ?_
  refine z_iconst 1 1 dL_law_1182 (by decide) ?_
  refine z_iadd dL_law_1183 ?_
  refine z_sld hS hf dL_law_1184 (fun v144 hf => ?_)
  refine z_aload_n 3 dL_law_1185 rfl rfl ?_
  refine z_iload_n 2 dL_law_1186 rfl rfl ?_
  refine z_iconst 2 2 dL_law_1187 (by decide) ?_
  refine z_iadd dL_law_1188 ?_
  refine z_sld hS hf dL_law_1189 (fun v145 hf => ?_)
  obtain ⟨v146, ev146, hf⟩ := ob hf
  refine z_cVi (ci := 12) (T := TX12) (N := 32) (As := [.int v144, .int v145]) (rest := []) (zm_X12_at ev146).2 (zm_X12_at ev146).1 (by decide) rfl (Or.inl rfl) mw_51_13 mw_51_14 mw_51_15 mw_1_5 mw_51_16 yk_X12_at (by decide) (by decide) rfl (Nat.le_of_ble_eq_true rfl) rfl dL_law_1190 ?_
  refine z_pop dL_law_1193 rfl ?_
  refine z_goto 1469 dL_law_1194 (by decide) ?_
  exact zb_L_law_1469 hE hS hk18 hq18 hf
set_option maxRecDepth 20000 in
theorem le_L_law_1197 {N L : Nat} {xs : Nat → Int32} {k18 : Nat → Nat → Int32 → AS → Option (Int32 × AS)} {r : Int32 × AS} (hk18 : ∀ (l1 : Nat) (l2 : Nat) (l3 : Int32) (s : AS), k18 l1 l2 l3 s = some r → Le s r.2) {l1 : Nat} {l2 : Nat} {l3 : Int32} {s : AS} (hf : f_L_law_1197 N L xs k18 l1 l2 l3 s = some r) : Le s r.2 := by
  unfold f_L_law_1197 at hf
  obtain ⟨v147, -, hf⟩ := ob hf
  obtain ⟨v148, -, hf⟩ := ob hf
  obtain ⟨v149, -, hf⟩ := ob hf
  obtain ⟨v150, -, hf⟩ := ob hf
  exact Le.via (le_L_law_1469 hk18 hf) rfl
set_option maxRecDepth 20000 in
theorem zb_L_law_1197 {N L : Nat} {xs : Nat → Int32} {b : Nat} {k18 : Nat → Nat → Int32 → AS → Option (Int32 × AS)} {r : Int32 × AS} {E : EV} (hE : TGL E r) (hS : SX E b L xs) (hk18 : ∀ (l1 : Nat) (l2 : Nat) (l3 : Int32) (s : AS), k18 l1 l2 l3 s = some r → Z E yL_law cL_law 4 (some .boolean) 8 s 18 [(1, .ref l1), (2, .ref l2), (3, .int l3), (0, .ref b)] []) (hq18 : ∀ (l1 : Nat) (l2 : Nat) (l3 : Int32) (s : AS), k18 l1 l2 l3 s = some r → Le s r.2) {l1 : Nat} {l2 : Nat} {l3 : Int32} {s : AS} (hf : f_L_law_1197 N L xs k18 l1 l2 l3 s = some r) : Z E yL_law cL_law 4 (some .boolean) 8 s 1197 [(1, .ref l1), (2, .ref l2), (3, .int l3), (0, .ref b)] [] := by
  unfold f_L_law_1197 at hf
  refine z_aload_n 0 dL_law_1197 rfl rfl ?_
  refine z_aload_n 3 dL_law_1198 rfl rfl ?_
  refine z_iload_n 2 dL_law_1199 rfl rfl ?_
  refine z_iconst 1 1 dL_law_1200 (by decide) ?_
  refine z_iadd dL_law_1201 ?_
  refine z_sld hS hf dL_law_1202 (fun v147 hf => ?_)
  obtain ⟨v148, ev148, hf⟩ := ob hf
  refine z_cVi (ci := 11) (T := TX11) (N := 14) (As := [.int v147]) (rest := []) (zm_X11_length ev148).2 (zm_X11_length ev148).1 (by decide) rfl (Or.inl rfl) mw_52_1 mw_52_2 mw_52_3 mw_1_2 mw_52_4 yk_X11_length (by decide) (by decide) rfl (Nat.le_of_ble_eq_true rfl) rfl dL_law_1203 ?_
  refine z_pop dL_law_1206 rfl ?_
  refine z_aload_n 1 dL_law_1207 rfl rfl ?_
  refine z_aload_n 3 dL_law_1208 rfl rfl ?_
  refine z_iload_n 2 dL_law_1209 rfl rfl ?_
  refine z_iconst 1 1 dL_law_1210 (by decide) ?_
  refine z_iadd dL_law_1211 ?_
  refine z_sld hS hf dL_law_1212 (fun v149 hf => ?_)
  obtain ⟨v150, ev150, hf⟩ := ob hf
  refine z_cVi (ci := 12) (T := TX12) (N := 32) (As := [.int v149]) (rest := []) (zm_X12_length ev150).2 (zm_X12_length ev150).1 (by decide) rfl (Or.inl rfl) mw_52_6 mw_52_7 mw_52_8 mw_1_5 mw_52_9 yk_X12_length (by decide) (by decide) rfl (Nat.le_of_ble_eq_true rfl) rfl dL_law_1213 ?_
  refine z_pop dL_law_1216 rfl ?_
  refine z_goto 1469 dL_law_1217 (by decide) ?_
  exact zb_L_law_1469 hE hS hk18 hq18 hf
set_option maxRecDepth 20000 in
theorem le_L_law_1220 {N L : Nat} {xs : Nat → Int32} {k18 : Nat → Nat → Int32 → AS → Option (Int32 × AS)} {r : Int32 × AS} (hk18 : ∀ (l1 : Nat) (l2 : Nat) (l3 : Int32) (s : AS), k18 l1 l2 l3 s = some r → Le s r.2) {l1 : Nat} {l2 : Nat} {l3 : Int32} {s : AS} (hf : f_L_law_1220 N L xs k18 l1 l2 l3 s = some r) : Le s r.2 := by
  unfold f_L_law_1220 at hf
  obtain ⟨v151, -, hf⟩ := ob hf
  obtain ⟨v152, -, hf⟩ := ob hf
  obtain ⟨v153, -, hf⟩ := ob hf
  obtain ⟨v154, -, hf⟩ := ob hf
  exact Le.via (le_L_law_1469 hk18 hf) rfl
set_option maxRecDepth 20000 in
theorem zb_L_law_1220 {N L : Nat} {xs : Nat → Int32} {b : Nat} {k18 : Nat → Nat → Int32 → AS → Option (Int32 × AS)} {r : Int32 × AS} {E : EV} (hE : TGL E r) (hS : SX E b L xs) (hk18 : ∀ (l1 : Nat) (l2 : Nat) (l3 : Int32) (s : AS), k18 l1 l2 l3 s = some r → Z E yL_law cL_law 4 (some .boolean) 8 s 18 [(1, .ref l1), (2, .ref l2), (3, .int l3), (0, .ref b)] []) (hq18 : ∀ (l1 : Nat) (l2 : Nat) (l3 : Int32) (s : AS), k18 l1 l2 l3 s = some r → Le s r.2) {l1 : Nat} {l2 : Nat} {l3 : Int32} {s : AS} (hf : f_L_law_1220 N L xs k18 l1 l2 l3 s = some r) : Z E yL_law cL_law 4 (some .boolean) 8 s 1220 [(1, .ref l1), (2, .ref l2), (3, .int l3), (0, .ref b)] [] := by
  unfold f_L_law_1220 at hf
  refine z_aload_n 0 dL_law_1220 rfl rfl ?_
  refine z_aload_n 3 dL_law_1221 rfl rfl ?_
  refine z_iload_n 2 dL_law_1222 rfl rfl ?_
  refine z_iconst 1 1 dL_law_1223 (by decide) ?_
  refine z_iadd dL_law_1224 ?_
  refine z_sld hS hf dL_law_1225 (fun v151 hf => ?_)
  obtain ⟨v152, ev152, hf⟩ := ob hf
  refine z_cVi (ci := 11) (T := TX11) (N := 14) (As := [.int v151]) (rest := []) (zm_X11_partner ev152).2 (zm_X11_partner ev152).1 (by decide) rfl (Or.inl rfl) mw_52_10 mw_52_11 mw_52_12 mw_1_2 mw_52_13 yk_X11_partner (by decide) (by decide) rfl (Nat.le_of_ble_eq_true rfl) rfl dL_law_1226 ?_
  refine z_pop dL_law_1229 rfl ?_
  refine z_aload_n 1 dL_law_1230 rfl rfl ?_
  refine z_aload_n 3 dL_law_1231 rfl rfl ?_
  refine z_iload_n 2 dL_law_1232 rfl rfl ?_
  refine z_iconst 1 1 dL_law_1233 (by decide) ?_
  refine z_iadd dL_law_1234 ?_
  refine z_sld hS hf dL_law_1235 (fun v153 hf => ?_)
  obtain ⟨v154, ev154, hf⟩ := ob hf
  refine z_cVi (ci := 12) (T := TX12) (N := 32) (As := [.int v153]) (rest := []) (zm_X12_partner ev154).2 (zm_X12_partner ev154).1 (by decide) rfl (Or.inl rfl) mw_52_15 mw_52_16 mw_52_17 mw_1_5 mw_52_18 yk_X12_partner (by decide) (by decide) rfl (Nat.le_of_ble_eq_true rfl) rfl dL_law_1236 ?_
  refine z_pop dL_law_1239 rfl ?_
  refine z_goto 1469 dL_law_1240 (by decide) ?_
  exact zb_L_law_1469 hE hS hk18 hq18 hf
set_option maxRecDepth 20000 in
theorem le_L_law_1247 {N L : Nat} {xs : Nat → Int32} {k18 : Nat → Nat → Int32 → AS → Option (Int32 × AS)} {r : Int32 × AS} (hk18 : ∀ (l1 : Nat) (l2 : Nat) (l3 : Int32) (s : AS), k18 l1 l2 l3 s = some r → Le s r.2) {l1 : Nat} {l2 : Nat} {l3 : Int32} {t0 : Int32} {s : AS} (hf : f_L_law_1247 N L xs k18 l1 l2 l3 t0 s = some r) : Le s r.2 := by
  unfold f_L_law_1247 at hf
  obtain ⟨v239, -, hf⟩ := ob hf
  exact Le.via (le_L_law_1469 hk18 hf) rfl
set_option maxRecDepth 20000 in
theorem zb_L_law_1247 {N L : Nat} {xs : Nat → Int32} {b : Nat} {k18 : Nat → Nat → Int32 → AS → Option (Int32 × AS)} {r : Int32 × AS} {E : EV} (hE : TGL E r) (hS : SX E b L xs) (hk18 : ∀ (l1 : Nat) (l2 : Nat) (l3 : Int32) (s : AS), k18 l1 l2 l3 s = some r → Z E yL_law cL_law 4 (some .boolean) 8 s 18 [(1, .ref l1), (2, .ref l2), (3, .int l3), (0, .ref b)] []) (hq18 : ∀ (l1 : Nat) (l2 : Nat) (l3 : Int32) (s : AS), k18 l1 l2 l3 s = some r → Le s r.2) {l1 : Nat} {l2 : Nat} {l3 : Int32} {t0 : Int32} {s : AS} (hf : f_L_law_1247 N L xs k18 l1 l2 l3 t0 s = some r) : Z E yL_law cL_law 4 (some .boolean) 8 s 1247 [(1, .ref l1), (2, .ref l2), (3, .int l3), (0, .ref b)] [.int t0] := by
  unfold f_L_law_1247 at hf
  refine z_pop dL_law_1247 rfl ?_
  refine z_aload_n 1 dL_law_1248 rfl rfl ?_
  obtain ⟨v239, ev239, hf⟩ := ob hf
  refine z_cVi (ci := 12) (T := TX12) (N := 32) (As := []) (rest := []) (zm_X12_split ev239).2 (zm_X12_split ev239).1 (by decide) rfl (Or.inl rfl) mw_53_3 mw_53_4 mw_53_5 mw_1_5 mw_53_6 yk_X12_split (by decide) (by decide) rfl (Nat.le_of_ble_eq_true rfl) rfl dL_law_1249 ?_
  refine z_pop dL_law_1252 rfl ?_
  refine z_goto 1469 dL_law_1253 (by decide) ?_
  exact zb_L_law_1469 hE hS hk18 hq18 hf
set_option maxRecDepth 20000 in
theorem le_L_law_1243 {N L : Nat} {xs : Nat → Int32} {k18 : Nat → Nat → Int32 → AS → Option (Int32 × AS)} {r : Int32 × AS} (hk18 : ∀ (l1 : Nat) (l2 : Nat) (l3 : Int32) (s : AS), k18 l1 l2 l3 s = some r → Le s r.2) {l1 : Nat} {l2 : Nat} {l3 : Int32} {s : AS} (hf : f_L_law_1243 N L xs k18 l1 l2 l3 s = some r) : Le s r.2 := by
  unfold f_L_law_1243 at hf
  obtain ⟨v155, ev155, hf⟩ := ob hf
  refine Le.of (t := (s.1, s.2)) rfl ((lm_X11_split ev155).tr ?_)
  exact Le.via (le_L_law_1247 hk18 hf) rfl
set_option maxRecDepth 20000 in
theorem zb_L_law_1243 {N L : Nat} {xs : Nat → Int32} {b : Nat} {k18 : Nat → Nat → Int32 → AS → Option (Int32 × AS)} {r : Int32 × AS} {E : EV} (hE : TGL E r) (hS : SX E b L xs) (hk18 : ∀ (l1 : Nat) (l2 : Nat) (l3 : Int32) (s : AS), k18 l1 l2 l3 s = some r → Z E yL_law cL_law 4 (some .boolean) 8 s 18 [(1, .ref l1), (2, .ref l2), (3, .int l3), (0, .ref b)] []) (hq18 : ∀ (l1 : Nat) (l2 : Nat) (l3 : Int32) (s : AS), k18 l1 l2 l3 s = some r → Le s r.2) {l1 : Nat} {l2 : Nat} {l3 : Int32} {s : AS} (hf : f_L_law_1243 N L xs k18 l1 l2 l3 s = some r) : Z E yL_law cL_law 4 (some .boolean) 8 s 1243 [(1, .ref l1), (2, .ref l2), (3, .int l3), (0, .ref b)] [] := by
  unfold f_L_law_1243 at hf
  refine z_aload_n 0 dL_law_1243 rfl rfl ?_
  obtain ⟨v155, ev155, hf⟩ := ob hf
  refine z_cVi (ci := 11) (T := TX11) (N := 14) (As := []) (rest := []) (zm_X11_split ev155).2 (zm_X11_split ev155).1 (by decide) rfl (Or.inr (tgl_le hE (le_L_law_1247 hq18 hf))) mw_52_19 mw_52_20 mw_52_21 mw_1_2 mw_52_22 yk_X11_split (by decide) (by decide) rfl (Nat.le_of_ble_eq_true rfl) rfl dL_law_1244 ?_
  exact zb_L_law_1247 hE hS hk18 hq18 hf
set_option maxRecDepth 20000 in
theorem le_L_law_1287 {N L : Nat} {xs : Nat → Int32} {r : Int32 × AS}   {s : AS} (hf : f_L_law_1287 N L xs  s = some r) : Le s r.2 := by
  unfold f_L_law_1287 at hf
  cases hf
  exact Le.rf
set_option maxRecDepth 20000 in
theorem zb_L_law_1287 {N L : Nat} {xs : Nat → Int32} {b : Nat} {r : Int32 × AS} {E : EV} (hE : TGL E r) (hS : SX E b L xs)    {s : AS} (hf : f_L_law_1287 N L xs  s = some r) : Z E yL_law cL_law 4 (some .boolean) 8 s 1287 [(0, .ref b)] [] := by
  unfold f_L_law_1287 at hf
  refine z_iconst 0 0 dL_law_1287 (by decide) ?_
  cases hf
  exact hE.2 _ _ dL_law_1288
set_option maxRecDepth 20000 in
theorem le_L_law_1256 {N L : Nat} {xs : Nat → Int32} {k18 : Nat → Nat → Int32 → AS → Option (Int32 × AS)} {r : Int32 × AS} (hk18 : ∀ (l1 : Nat) (l2 : Nat) (l3 : Int32) (s : AS), k18 l1 l2 l3 s = some r → Le s r.2) {l1 : Nat} {l2 : Nat} {l3 : Int32} {s : AS} (hf : f_L_law_1256 N L xs k18 l1 l2 l3 s = some r) : Le s r.2 := by
  unfold f_L_law_1256 at hf
  obtain ⟨v156, -, hf⟩ := ob hf
  obtain ⟨v157, -, hf⟩ := ob hf
  obtain ⟨v158, -, hf⟩ := ob hf
  obtain ⟨v159, -, hf⟩ := ob hf
  obtain ⟨v160, -, hf⟩ := ob hf
  obtain ⟨v161, -, hf⟩ := ob hf
  refine ite_c hf (fun hf => ?_) (fun hf => ?_)
  · exact Le.via (le_L_law_1469 hk18 hf) rfl
  · exact Le.via (le_L_law_1287 hf) rfl
set_option maxRecDepth 20000 in
theorem zb_L_law_1256 {N L : Nat} {xs : Nat → Int32} {b : Nat} {k18 : Nat → Nat → Int32 → AS → Option (Int32 × AS)} {r : Int32 × AS} {E : EV} (hE : TGL E r) (hS : SX E b L xs) (hk18 : ∀ (l1 : Nat) (l2 : Nat) (l3 : Int32) (s : AS), k18 l1 l2 l3 s = some r → Z E yL_law cL_law 4 (some .boolean) 8 s 18 [(1, .ref l1), (2, .ref l2), (3, .int l3), (0, .ref b)] []) (hq18 : ∀ (l1 : Nat) (l2 : Nat) (l3 : Int32) (s : AS), k18 l1 l2 l3 s = some r → Le s r.2) {l1 : Nat} {l2 : Nat} {l3 : Int32} {s : AS} (hf : f_L_law_1256 N L xs k18 l1 l2 l3 s = some r) : Z E yL_law cL_law 4 (some .boolean) 8 s 1256 [(1, .ref l1), (2, .ref l2), (3, .int l3), (0, .ref b)] [] := by
  unfold f_L_law_1256 at hf
  refine z_aload_n 0 dL_law_1256 rfl rfl ?_
  refine z_aload_n 3 dL_law_1257 rfl rfl ?_
  refine z_iload_n 2 dL_law_1258 rfl rfl ?_
  refine z_iconst 1 1 dL_law_1259 (by decide) ?_
  refine z_iadd dL_law_1260 ?_
  refine z_sld hS hf dL_law_1261 (fun v156 hf => ?_)
  refine z_aload_n 3 dL_law_1262 rfl rfl ?_
  refine z_iload_n 2 dL_law_1263 rfl rfl ?_
  refine z_iconst 2 2 dL_law_1264 (by decide) ?_
  refine z_iadd dL_law_1265 ?_
  refine z_sld hS hf dL_law_1266 (fun v157 hf => ?_)
  obtain ⟨v158, ev158, hf⟩ := ob hf
  refine z_cVi (ci := 11) (T := TX11) (N := 14) (As := [.int v156, .int v157]) (rest := []) (zm_X11_part ev158).2 (zm_X11_part ev158).1 (by decide) rfl (Or.inl rfl) mw_53_11 mw_53_12 mw_53_13 mw_1_2 mw_53_14 yk_X11_part (by decide) (by decide) rfl (Nat.le_of_ble_eq_true rfl) rfl dL_law_1267 ?_
  refine z_aload_n 1 dL_law_1270 rfl rfl ?_
  refine z_aload_n 3 dL_law_1271 rfl rfl ?_
  refine z_iload_n 2 dL_law_1272 rfl rfl ?_
  refine z_iconst 1 1 dL_law_1273 (by decide) ?_
  refine z_iadd dL_law_1274 ?_
  refine z_sld hS hf dL_law_1275 (fun v159 hf => ?_)
  refine z_aload_n 3 dL_law_1276 rfl rfl ?_
  refine z_iload_n 2 dL_law_1277 rfl rfl ?_
  refine z_iconst 2 2 dL_law_1278 (by decide) ?_
  refine z_iadd dL_law_1279 ?_
  refine z_sld hS hf dL_law_1280 (fun v160 hf => ?_)
  obtain ⟨v161, ev161, hf⟩ := ob hf
  refine z_cVi (ci := 12) (T := TX12) (N := 32) (As := [.int v159, .int v160]) (rest := [.int v158.1]) (zm_X12_part ev161).2 (zm_X12_part ev161).1 (by decide) rfl (Or.inl rfl) mw_53_15 mw_53_16 mw_53_17 mw_1_5 mw_53_18 yk_X12_part (by decide) (by decide) rfl (Nat.le_of_ble_eq_true rfl) rfl dL_law_1281 ?_
  refine z_icmp_eq 1469 hf dL_law_1284 (by decide) (fun hf => ?_) (fun hf => ?_)
  · exact zb_L_law_1469 hE hS hk18 hq18 hf
  · refine z_lv [(0, .ref b)] [3] rfl ?_
    exact zb_L_law_1287 hE hS hf
set_option maxRecDepth 20000 in
theorem le_L_law_1303 {N L : Nat} {xs : Nat → Int32} {k18 : Nat → Nat → Int32 → AS → Option (Int32 × AS)} {r : Int32 × AS} (hk18 : ∀ (l1 : Nat) (l2 : Nat) (l3 : Int32) (s : AS), k18 l1 l2 l3 s = some r → Le s r.2) {l1 : Nat} {l2 : Nat} {l3 : Int32} {t0 : Int32} {s : AS} (hf : f_L_law_1303 N L xs k18 l1 l2 l3 t0 s = some r) : Le s r.2 := by
  unfold f_L_law_1303 at hf
  obtain ⟨v240, -, hf⟩ := ob hf
  obtain ⟨v241, -, hf⟩ := ob hf
  obtain ⟨v242, -, hf⟩ := ob hf
  exact Le.via (le_L_law_1469 hk18 hf) rfl
set_option maxRecDepth 20000 in
theorem zb_L_law_1303 {N L : Nat} {xs : Nat → Int32} {b : Nat} {k18 : Nat → Nat → Int32 → AS → Option (Int32 × AS)} {r : Int32 × AS} {E : EV} (hE : TGL E r) (hS : SX E b L xs) (hk18 : ∀ (l1 : Nat) (l2 : Nat) (l3 : Int32) (s : AS), k18 l1 l2 l3 s = some r → Z E yL_law cL_law 4 (some .boolean) 8 s 18 [(1, .ref l1), (2, .ref l2), (3, .int l3), (0, .ref b)] []) (hq18 : ∀ (l1 : Nat) (l2 : Nat) (l3 : Int32) (s : AS), k18 l1 l2 l3 s = some r → Le s r.2) {l1 : Nat} {l2 : Nat} {l3 : Int32} {t0 : Int32} {s : AS} (hf : f_L_law_1303 N L xs k18 l1 l2 l3 t0 s = some r) : Z E yL_law cL_law 4 (some .boolean) 8 s 1303 [(1, .ref l1), (2, .ref l2), (3, .int l3), (0, .ref b)] [.int t0] := by
  unfold f_L_law_1303 at hf
  refine z_pop dL_law_1303 rfl ?_
  refine z_aload_n 1 dL_law_1304 rfl rfl ?_
  refine z_aload_n 3 dL_law_1305 rfl rfl ?_
  refine z_iload_n 2 dL_law_1306 rfl rfl ?_
  refine z_iconst 1 1 dL_law_1307 (by decide) ?_
  refine z_iadd dL_law_1308 ?_
  refine z_sld hS hf dL_law_1309 (fun v240 hf => ?_)
  refine z_aload_n 3 dL_law_1310 rfl rfl ?_
  refine z_iload_n 2 dL_law_1311 rfl rfl ?_
  refine z_iconst 2 2 dL_law_1312 (by decide) ?_
  refine z_iadd dL_law_1313 ?_
  refine z_sld hS hf dL_law_1314 (fun v241 hf => ?_)
  obtain ⟨v242, ev242, hf⟩ := ob hf
  refine z_cVi (ci := 12) (T := TX12) (N := 32) (As := [.int v240, .int v241]) (rest := []) (zm_X12_go ev242).2 (zm_X12_go ev242).1 (by decide) rfl (Or.inl rfl) mw_55_9 mw_55_10 mw_55_11 mw_1_5 mw_55_12 yk_X12_go (by decide) (by decide) rfl (Nat.le_of_ble_eq_true rfl) rfl dL_law_1315 ?_
  refine z_pop dL_law_1318 rfl ?_
  refine z_goto 1469 dL_law_1319 (by decide) ?_
  exact zb_L_law_1469 hE hS hk18 hq18 hf
set_option maxRecDepth 20000 in
theorem le_L_law_1289 {N L : Nat} {xs : Nat → Int32} {k18 : Nat → Nat → Int32 → AS → Option (Int32 × AS)} {r : Int32 × AS} (hk18 : ∀ (l1 : Nat) (l2 : Nat) (l3 : Int32) (s : AS), k18 l1 l2 l3 s = some r → Le s r.2) {l1 : Nat} {l2 : Nat} {l3 : Int32} {s : AS} (hf : f_L_law_1289 N L xs k18 l1 l2 l3 s = some r) : Le s r.2 := by
  unfold f_L_law_1289 at hf
  obtain ⟨v162, -, hf⟩ := ob hf
  obtain ⟨v163, -, hf⟩ := ob hf
  obtain ⟨v164, ev164, hf⟩ := ob hf
  refine Le.of (t := (s.1, s.2)) rfl ((lm_X11_go ev164).tr ?_)
  exact Le.via (le_L_law_1303 hk18 hf) rfl
set_option maxRecDepth 20000 in
theorem zb_L_law_1289 {N L : Nat} {xs : Nat → Int32} {b : Nat} {k18 : Nat → Nat → Int32 → AS → Option (Int32 × AS)} {r : Int32 × AS} {E : EV} (hE : TGL E r) (hS : SX E b L xs) (hk18 : ∀ (l1 : Nat) (l2 : Nat) (l3 : Int32) (s : AS), k18 l1 l2 l3 s = some r → Z E yL_law cL_law 4 (some .boolean) 8 s 18 [(1, .ref l1), (2, .ref l2), (3, .int l3), (0, .ref b)] []) (hq18 : ∀ (l1 : Nat) (l2 : Nat) (l3 : Int32) (s : AS), k18 l1 l2 l3 s = some r → Le s r.2) {l1 : Nat} {l2 : Nat} {l3 : Int32} {s : AS} (hf : f_L_law_1289 N L xs k18 l1 l2 l3 s = some r) : Z E yL_law cL_law 4 (some .boolean) 8 s 1289 [(1, .ref l1), (2, .ref l2), (3, .int l3), (0, .ref b)] [] := by
  unfold f_L_law_1289 at hf
  refine z_aload_n 0 dL_law_1289 rfl rfl ?_
  refine z_aload_n 3 dL_law_1290 rfl rfl ?_
  refine z_iload_n 2 dL_law_1291 rfl rfl ?_
  refine z_iconst 1 1 dL_law_1292 (by decide) ?_
  refine z_iadd dL_law_1293 ?_
  refine z_sld hS hf dL_law_1294 (fun v162 hf => ?_)
  refine z_aload_n 3 dL_law_1295 rfl rfl ?_
  refine z_iload_n 2 dL_law_1296 rfl rfl ?_
  refine z_iconst 2 2 dL_law_1297 (by decide) ?_
  refine z_iadd dL_law_1298 ?_
  refine z_sld hS hf dL_law_1299 (fun v163 hf => ?_)
  obtain ⟨v164, ev164, hf⟩ := ob hf
  refine z_cVi (ci := 11) (T := TX11) (N := 14) (As := [.int v162, .int v163]) (rest := []) (zm_X11_go ev164).2 (zm_X11_go ev164).1 (by decide) rfl (Or.inr (tgl_le hE (le_L_law_1303 hq18 hf))) mw_53_23 mw_54_0 mw_54_1 mw_1_2 mw_54_2 yk_X11_go (by decide) (by decide) rfl (Nat.le_of_ble_eq_true rfl) rfl dL_law_1300 ?_
  exact zb_L_law_1303 hE hS hk18 hq18 hf
set_option maxRecDepth 20000 in
theorem le_L_law_1322 {N L : Nat} {xs : Nat → Int32} {k18 : Nat → Nat → Int32 → AS → Option (Int32 × AS)} {r : Int32 × AS} (hk18 : ∀ (l1 : Nat) (l2 : Nat) (l3 : Int32) (s : AS), k18 l1 l2 l3 s = some r → Le s r.2) {l1 : Nat} {l2 : Nat} {l3 : Int32} {s : AS} (hf : f_L_law_1322 N L xs k18 l1 l2 l3 s = some r) : Le s r.2 := by
  unfold f_L_law_1322 at hf
  obtain ⟨v165, -, hf⟩ := ob hf
  obtain ⟨v166, -, hf⟩ := ob hf
  exact Le.via (le_L_law_1469 hk18 hf) rfl
set_option maxRecDepth 20000 in
theorem zb_L_law_1322 {N L : Nat} {xs : Nat → Int32} {b : Nat} {k18 : Nat → Nat → Int32 → AS → Option (Int32 × AS)} {r : Int32 × AS} {E : EV} (hE : TGL E r) (hS : SX E b L xs) (hk18 : ∀ (l1 : Nat) (l2 : Nat) (l3 : Int32) (s : AS), k18 l1 l2 l3 s = some r → Z E yL_law cL_law 4 (some .boolean) 8 s 18 [(1, .ref l1), (2, .ref l2), (3, .int l3), (0, .ref b)] []) (hq18 : ∀ (l1 : Nat) (l2 : Nat) (l3 : Int32) (s : AS), k18 l1 l2 l3 s = some r → Le s r.2) {l1 : Nat} {l2 : Nat} {l3 : Int32} {s : AS} (hf : f_L_law_1322 N L xs k18 l1 l2 l3 s = some r) : Z E yL_law cL_law 4 (some .boolean) 8 s 1322 [(1, .ref l1), (2, .ref l2), (3, .int l3), (0, .ref b)] [] := by
  unfold f_L_law_1322 at hf
  refine z_aload_n 0 dL_law_1322 rfl rfl ?_
  obtain ⟨v165, ev165, hf⟩ := ob hf
  refine z_cVi (ci := 11) (T := TX11) (N := 14) (As := []) (rest := []) (zm_X11_looks ev165).2 (zm_X11_looks ev165).1 (by decide) rfl (Or.inl rfl) mw_55_22 mw_55_23 mw_56_0 mw_1_2 mw_56_1 yk_X11_looks (by decide) (by decide) rfl (Nat.le_of_ble_eq_true rfl) rfl dL_law_1323 ?_
  refine z_pop dL_law_1326 rfl ?_
  refine z_aload_n 1 dL_law_1327 rfl rfl ?_
  obtain ⟨v166, ev166, hf⟩ := ob hf
  refine z_cVi (ci := 12) (T := TX12) (N := 32) (As := []) (rest := []) (zm_X12_looks ev166).2 (zm_X12_looks ev166).1 (by decide) rfl (Or.inl rfl) mw_56_2 mw_56_3 mw_56_4 mw_1_5 mw_56_5 yk_X12_looks (by decide) (by decide) rfl (Nat.le_of_ble_eq_true rfl) rfl dL_law_1328 ?_
  refine z_pop dL_law_1331 rfl ?_
  refine z_goto 1469 dL_law_1332 (by decide) ?_
  exact zb_L_law_1469 hE hS hk18 hq18 hf
set_option maxRecDepth 20000 in
theorem le_L_law_1339 {N L : Nat} {xs : Nat → Int32} {k18 : Nat → Nat → Int32 → AS → Option (Int32 × AS)} {r : Int32 × AS} (hk18 : ∀ (l1 : Nat) (l2 : Nat) (l3 : Int32) (s : AS), k18 l1 l2 l3 s = some r → Le s r.2) {l1 : Nat} {l2 : Nat} {l3 : Int32} {t0 : Int32} {s : AS} (hf : f_L_law_1339 N L xs k18 l1 l2 l3 t0 s = some r) : Le s r.2 := by
  unfold f_L_law_1339 at hf
  obtain ⟨v243, -, hf⟩ := ob hf
  exact Le.via (le_L_law_1469 hk18 hf) rfl
set_option maxRecDepth 20000 in
theorem zb_L_law_1339 {N L : Nat} {xs : Nat → Int32} {b : Nat} {k18 : Nat → Nat → Int32 → AS → Option (Int32 × AS)} {r : Int32 × AS} {E : EV} (hE : TGL E r) (hS : SX E b L xs) (hk18 : ∀ (l1 : Nat) (l2 : Nat) (l3 : Int32) (s : AS), k18 l1 l2 l3 s = some r → Z E yL_law cL_law 4 (some .boolean) 8 s 18 [(1, .ref l1), (2, .ref l2), (3, .int l3), (0, .ref b)] []) (hq18 : ∀ (l1 : Nat) (l2 : Nat) (l3 : Int32) (s : AS), k18 l1 l2 l3 s = some r → Le s r.2) {l1 : Nat} {l2 : Nat} {l3 : Int32} {t0 : Int32} {s : AS} (hf : f_L_law_1339 N L xs k18 l1 l2 l3 t0 s = some r) : Z E yL_law cL_law 4 (some .boolean) 8 s 1339 [(1, .ref l1), (2, .ref l2), (3, .int l3), (0, .ref b)] [.int t0] := by
  unfold f_L_law_1339 at hf
  refine z_pop dL_law_1339 rfl ?_
  refine z_aload_n 1 dL_law_1340 rfl rfl ?_
  obtain ⟨v243, ev243, hf⟩ := ob hf
  refine z_cVi (ci := 12) (T := TX12) (N := 32) (As := []) (rest := []) (zm_X12_text ev243).2 (zm_X12_text ev243).1 (by decide) rfl (Or.inl rfl) mw_56_23 mw_57_0 mw_57_1 mw_1_5 mw_57_2 yk_X12_text (by decide) (by decide) rfl (Nat.le_of_ble_eq_true rfl) rfl dL_law_1341 ?_
  refine z_pop dL_law_1344 rfl ?_
  refine z_goto 1469 dL_law_1345 (by decide) ?_
  exact zb_L_law_1469 hE hS hk18 hq18 hf
set_option maxRecDepth 20000 in
theorem le_L_law_1335 {N L : Nat} {xs : Nat → Int32} {k18 : Nat → Nat → Int32 → AS → Option (Int32 × AS)} {r : Int32 × AS} (hk18 : ∀ (l1 : Nat) (l2 : Nat) (l3 : Int32) (s : AS), k18 l1 l2 l3 s = some r → Le s r.2) {l1 : Nat} {l2 : Nat} {l3 : Int32} {s : AS} (hf : f_L_law_1335 N L xs k18 l1 l2 l3 s = some r) : Le s r.2 := by
  unfold f_L_law_1335 at hf
  obtain ⟨v167, ev167, hf⟩ := ob hf
  refine Le.of (t := (s.1, s.2)) rfl ((lm_X11_text ev167).tr ?_)
  exact Le.via (le_L_law_1339 hk18 hf) rfl
set_option maxRecDepth 20000 in
theorem zb_L_law_1335 {N L : Nat} {xs : Nat → Int32} {b : Nat} {k18 : Nat → Nat → Int32 → AS → Option (Int32 × AS)} {r : Int32 × AS} {E : EV} (hE : TGL E r) (hS : SX E b L xs) (hk18 : ∀ (l1 : Nat) (l2 : Nat) (l3 : Int32) (s : AS), k18 l1 l2 l3 s = some r → Z E yL_law cL_law 4 (some .boolean) 8 s 18 [(1, .ref l1), (2, .ref l2), (3, .int l3), (0, .ref b)] []) (hq18 : ∀ (l1 : Nat) (l2 : Nat) (l3 : Int32) (s : AS), k18 l1 l2 l3 s = some r → Le s r.2) {l1 : Nat} {l2 : Nat} {l3 : Int32} {s : AS} (hf : f_L_law_1335 N L xs k18 l1 l2 l3 s = some r) : Z E yL_law cL_law 4 (some .boolean) 8 s 1335 [(1, .ref l1), (2, .ref l2), (3, .int l3), (0, .ref b)] [] := by
  unfold f_L_law_1335 at hf
  refine z_aload_n 0 dL_law_1335 rfl rfl ?_
  obtain ⟨v167, ev167, hf⟩ := ob hf
  refine z_cVi (ci := 11) (T := TX11) (N := 14) (As := []) (rest := []) (zm_X11_text ev167).2 (zm_X11_text ev167).1 (by decide) rfl (Or.inr (tgl_le hE (le_L_law_1339 hq18 hf))) mw_56_6 mw_56_7 mw_56_8 mw_1_2 mw_56_9 yk_X11_text (by decide) (by decide) rfl (Nat.le_of_ble_eq_true rfl) rfl dL_law_1336 ?_
  exact zb_L_law_1339 hE hS hk18 hq18 hf
set_option maxRecDepth 20000 in
theorem le_L_law_1348 {N L : Nat} {xs : Nat → Int32} {k18 : Nat → Nat → Int32 → AS → Option (Int32 × AS)} {r : Int32 × AS} (hk18 : ∀ (l1 : Nat) (l2 : Nat) (l3 : Int32) (s : AS), k18 l1 l2 l3 s = some r → Le s r.2) {l1 : Nat} {l2 : Nat} {l3 : Int32} {s : AS} (hf : f_L_law_1348 N L xs k18 l1 l2 l3 s = some r) : Le s r.2 := by
  unfold f_L_law_1348 at hf
  obtain ⟨v168, -, hf⟩ := ob hf
  obtain ⟨v169, -, hf⟩ := ob hf
  obtain ⟨v170, -, hf⟩ := ob hf
  obtain ⟨v171, -, hf⟩ := ob hf
  exact Le.via (le_L_law_1469 hk18 hf) rfl
set_option maxRecDepth 20000 in
theorem zb_L_law_1348 {N L : Nat} {xs : Nat → Int32} {b : Nat} {k18 : Nat → Nat → Int32 → AS → Option (Int32 × AS)} {r : Int32 × AS} {E : EV} (hE : TGL E r) (hS : SX E b L xs) (hk18 : ∀ (l1 : Nat) (l2 : Nat) (l3 : Int32) (s : AS), k18 l1 l2 l3 s = some r → Z E yL_law cL_law 4 (some .boolean) 8 s 18 [(1, .ref l1), (2, .ref l2), (3, .int l3), (0, .ref b)] []) (hq18 : ∀ (l1 : Nat) (l2 : Nat) (l3 : Int32) (s : AS), k18 l1 l2 l3 s = some r → Le s r.2) {l1 : Nat} {l2 : Nat} {l3 : Int32} {s : AS} (hf : f_L_law_1348 N L xs k18 l1 l2 l3 s = some r) : Z E yL_law cL_law 4 (some .boolean) 8 s 1348 [(1, .ref l1), (2, .ref l2), (3, .int l3), (0, .ref b)] [] := by
  unfold f_L_law_1348 at hf
  refine z_aload_n 0 dL_law_1348 rfl rfl ?_
  refine z_aload_n 3 dL_law_1349 rfl rfl ?_
  refine z_iload_n 2 dL_law_1350 rfl rfl ?_
  refine z_iconst 1 1 dL_law_1351 (by decide) ?_
  refine z_iadd dL_law_1352 ?_
  refine z_sld hS hf dL_law_1353 (fun v168 hf => ?_)
  obtain ⟨v169, ev169, hf⟩ := ob hf
  refine z_cVi (ci := 11) (T := TX11) (N := 14) (As := [.int v168]) (rest := []) (zm_X11_sign ev169).2 (zm_X11_sign ev169).1 (by decide) rfl (Or.inl rfl) mw_57_12 mw_57_13 mw_57_14 mw_1_2 mw_57_15 yk_X11_sign (by decide) (by decide) rfl (Nat.le_of_ble_eq_true rfl) rfl dL_law_1354 ?_
  refine z_pop dL_law_1357 rfl ?_
  refine z_aload_n 1 dL_law_1358 rfl rfl ?_
  refine z_aload_n 3 dL_law_1359 rfl rfl ?_
  refine z_iload_n 2 dL_law_1360 rfl rfl ?_
  refine z_iconst 1 1 dL_law_1361 (by decide) ?_
  refine z_iadd dL_law_1362 ?_
  refine z_sld hS hf dL_law_1363 (fun v170 hf => ?_)
  obtain ⟨v171, ev171, hf⟩ := ob hf
  refine z_cVi (ci := 12) (T := TX12) (N := 32) (As := [.int v170]) (rest := []) (zm_X12_sign ev171).2 (zm_X12_sign ev171).1 (by decide) rfl (Or.inl rfl) mw_57_16 mw_57_17 mw_57_18 mw_1_5 mw_57_19 yk_X12_sign (by decide) (by decide) rfl (Nat.le_of_ble_eq_true rfl) rfl dL_law_1364 ?_
  refine z_pop dL_law_1367 rfl ?_
  refine z_goto 1469 dL_law_1368 (by decide) ?_
  exact zb_L_law_1469 hE hS hk18 hq18 hf
set_option maxRecDepth 20000 in
theorem le_L_law_1371 {N L : Nat} {xs : Nat → Int32} {k18 : Nat → Nat → Int32 → AS → Option (Int32 × AS)} {r : Int32 × AS} (hk18 : ∀ (l1 : Nat) (l2 : Nat) (l3 : Int32) (s : AS), k18 l1 l2 l3 s = some r → Le s r.2) {l1 : Nat} {l2 : Nat} {l3 : Int32} {s : AS} (hf : f_L_law_1371 N L xs k18 l1 l2 l3 s = some r) : Le s r.2 := by
  unfold f_L_law_1371 at hf
  obtain ⟨v172, -, hf⟩ := ob hf
  obtain ⟨v173, -, hf⟩ := ob hf
  exact Le.via (le_L_law_1469 hk18 hf) rfl
set_option maxRecDepth 20000 in
theorem zb_L_law_1371 {N L : Nat} {xs : Nat → Int32} {b : Nat} {k18 : Nat → Nat → Int32 → AS → Option (Int32 × AS)} {r : Int32 × AS} {E : EV} (hE : TGL E r) (hS : SX E b L xs) (hk18 : ∀ (l1 : Nat) (l2 : Nat) (l3 : Int32) (s : AS), k18 l1 l2 l3 s = some r → Z E yL_law cL_law 4 (some .boolean) 8 s 18 [(1, .ref l1), (2, .ref l2), (3, .int l3), (0, .ref b)] []) (hq18 : ∀ (l1 : Nat) (l2 : Nat) (l3 : Int32) (s : AS), k18 l1 l2 l3 s = some r → Le s r.2) {l1 : Nat} {l2 : Nat} {l3 : Int32} {s : AS} (hf : f_L_law_1371 N L xs k18 l1 l2 l3 s = some r) : Z E yL_law cL_law 4 (some .boolean) 8 s 1371 [(1, .ref l1), (2, .ref l2), (3, .int l3), (0, .ref b)] [] := by
  unfold f_L_law_1371 at hf
  refine z_aload_n 0 dL_law_1371 rfl rfl ?_
  obtain ⟨v172, ev172, hf⟩ := ob hf
  refine z_cVi (ci := 11) (T := TX11) (N := 14) (As := []) (rest := []) (zm_X11_digest ev172).2 (zm_X11_digest ev172).1 (by decide) rfl (Or.inl rfl) mw_57_20 mw_57_21 mw_57_22 mw_1_2 mw_57_23 yk_X11_digest (by decide) (by decide) rfl (Nat.le_of_ble_eq_true rfl) rfl dL_law_1372 ?_
  refine z_pop dL_law_1375 rfl ?_
  refine z_aload_n 1 dL_law_1376 rfl rfl ?_
  obtain ⟨v173, ev173, hf⟩ := ob hf
  refine z_cVi (ci := 12) (T := TX12) (N := 32) (As := []) (rest := []) (zm_X12_digest ev173).2 (zm_X12_digest ev173).1 (by decide) rfl (Or.inl rfl) mw_58_4 mw_58_5 mw_58_6 mw_1_5 mw_58_7 yk_X12_digest (by decide) (by decide) rfl (Nat.le_of_ble_eq_true rfl) rfl dL_law_1377 ?_
  refine z_pop dL_law_1380 rfl ?_
  refine z_goto 1469 dL_law_1381 (by decide) ?_
  exact zb_L_law_1469 hE hS hk18 hq18 hf
set_option maxRecDepth 20000 in
theorem le_L_law_1388 {N L : Nat} {xs : Nat → Int32} {k18 : Nat → Nat → Int32 → AS → Option (Int32 × AS)} {r : Int32 × AS} (hk18 : ∀ (l1 : Nat) (l2 : Nat) (l3 : Int32) (s : AS), k18 l1 l2 l3 s = some r → Le s r.2) {l1 : Nat} {l2 : Nat} {l3 : Int32} {t0 : Int32} {s : AS} (hf : f_L_law_1388 N L xs k18 l1 l2 l3 t0 s = some r) : Le s r.2 := by
  unfold f_L_law_1388 at hf
  obtain ⟨v244, -, hf⟩ := ob hf
  exact Le.via (le_L_law_1469 hk18 hf) rfl
set_option maxRecDepth 20000 in
theorem zb_L_law_1388 {N L : Nat} {xs : Nat → Int32} {b : Nat} {k18 : Nat → Nat → Int32 → AS → Option (Int32 × AS)} {r : Int32 × AS} {E : EV} (hE : TGL E r) (hS : SX E b L xs) (hk18 : ∀ (l1 : Nat) (l2 : Nat) (l3 : Int32) (s : AS), k18 l1 l2 l3 s = some r → Z E yL_law cL_law 4 (some .boolean) 8 s 18 [(1, .ref l1), (2, .ref l2), (3, .int l3), (0, .ref b)] []) (hq18 : ∀ (l1 : Nat) (l2 : Nat) (l3 : Int32) (s : AS), k18 l1 l2 l3 s = some r → Le s r.2) {l1 : Nat} {l2 : Nat} {l3 : Int32} {t0 : Int32} {s : AS} (hf : f_L_law_1388 N L xs k18 l1 l2 l3 t0 s = some r) : Z E yL_law cL_law 4 (some .boolean) 8 s 1388 [(1, .ref l1), (2, .ref l2), (3, .int l3), (0, .ref b)] [.int t0] := by
  unfold f_L_law_1388 at hf
  refine z_pop dL_law_1388 rfl ?_
  refine z_aload_n 1 dL_law_1389 rfl rfl ?_
  obtain ⟨v244, ev244, hf⟩ := ob hf
  refine z_cVi (ci := 12) (T := TX12) (N := 32) (As := []) (rest := []) (zm_X12_undo ev244).2 (zm_X12_undo ev244).1 (by decide) rfl (Or.inl rfl) mw_58_12 mw_58_13 mw_58_14 mw_1_5 mw_58_15 yk_X12_undo (by decide) (by decide) rfl (Nat.le_of_ble_eq_true rfl) rfl dL_law_1390 ?_
  refine z_pop dL_law_1393 rfl ?_
  refine z_goto 1469 dL_law_1394 (by decide) ?_
  exact zb_L_law_1469 hE hS hk18 hq18 hf
set_option maxRecDepth 20000 in
theorem le_L_law_1384 {N L : Nat} {xs : Nat → Int32} {k18 : Nat → Nat → Int32 → AS → Option (Int32 × AS)} {r : Int32 × AS} (hk18 : ∀ (l1 : Nat) (l2 : Nat) (l3 : Int32) (s : AS), k18 l1 l2 l3 s = some r → Le s r.2) {l1 : Nat} {l2 : Nat} {l3 : Int32} {s : AS} (hf : f_L_law_1384 N L xs k18 l1 l2 l3 s = some r) : Le s r.2 := by
  unfold f_L_law_1384 at hf
  obtain ⟨v174, ev174, hf⟩ := ob hf
  refine Le.of (t := (s.1, s.2)) rfl ((lm_X11_undo ev174).tr ?_)
  exact Le.via (le_L_law_1388 hk18 hf) rfl
set_option maxRecDepth 20000 in
theorem zb_L_law_1384 {N L : Nat} {xs : Nat → Int32} {b : Nat} {k18 : Nat → Nat → Int32 → AS → Option (Int32 × AS)} {r : Int32 × AS} {E : EV} (hE : TGL E r) (hS : SX E b L xs) (hk18 : ∀ (l1 : Nat) (l2 : Nat) (l3 : Int32) (s : AS), k18 l1 l2 l3 s = some r → Z E yL_law cL_law 4 (some .boolean) 8 s 18 [(1, .ref l1), (2, .ref l2), (3, .int l3), (0, .ref b)] []) (hq18 : ∀ (l1 : Nat) (l2 : Nat) (l3 : Int32) (s : AS), k18 l1 l2 l3 s = some r → Le s r.2) {l1 : Nat} {l2 : Nat} {l3 : Int32} {s : AS} (hf : f_L_law_1384 N L xs k18 l1 l2 l3 s = some r) : Z E yL_law cL_law 4 (some .boolean) 8 s 1384 [(1, .ref l1), (2, .ref l2), (3, .int l3), (0, .ref b)] [] := by
  unfold f_L_law_1384 at hf
  refine z_aload_n 0 dL_law_1384 rfl rfl ?_
  obtain ⟨v174, ev174, hf⟩ := ob hf
  refine z_cVi (ci := 11) (T := TX11) (N := 14) (As := []) (rest := []) (zm_X11_undo ev174).2 (zm_X11_undo ev174).1 (by decide) rfl (Or.inr (tgl_le hE (le_L_law_1388 hq18 hf))) mw_58_8 mw_58_9 mw_58_10 mw_1_2 mw_58_11 yk_X11_undo (by decide) (by decide) rfl (Nat.le_of_ble_eq_true rfl) rfl dL_law_1385 ?_
  exact zb_L_law_1388 hE hS hk18 hq18 hf
set_option maxRecDepth 20000 in
theorem le_L_law_1397 {N L : Nat} {xs : Nat → Int32} {k18 : Nat → Nat → Int32 → AS → Option (Int32 × AS)} {r : Int32 × AS} (hk18 : ∀ (l1 : Nat) (l2 : Nat) (l3 : Int32) (s : AS), k18 l1 l2 l3 s = some r → Le s r.2) {l1 : Nat} {l2 : Nat} {l3 : Int32} {s : AS} (hf : f_L_law_1397 N L xs k18 l1 l2 l3 s = some r) : Le s r.2 := by
  unfold f_L_law_1397 at hf
  obtain ⟨v175, -, hf⟩ := ob hf
  obtain ⟨v176, -, hf⟩ := ob hf
  obtain ⟨v177, -, hf⟩ := ob hf
  obtain ⟨v178, -, hf⟩ := ob hf
  exact Le.via (le_L_law_1469 hk18 hf) rfl
set_option maxRecDepth 20000 in
theorem zb_L_law_1397 {N L : Nat} {xs : Nat → Int32} {b : Nat} {k18 : Nat → Nat → Int32 → AS → Option (Int32 × AS)} {r : Int32 × AS} {E : EV} (hE : TGL E r) (hS : SX E b L xs) (hk18 : ∀ (l1 : Nat) (l2 : Nat) (l3 : Int32) (s : AS), k18 l1 l2 l3 s = some r → Z E yL_law cL_law 4 (some .boolean) 8 s 18 [(1, .ref l1), (2, .ref l2), (3, .int l3), (0, .ref b)] []) (hq18 : ∀ (l1 : Nat) (l2 : Nat) (l3 : Int32) (s : AS), k18 l1 l2 l3 s = some r → Le s r.2) {l1 : Nat} {l2 : Nat} {l3 : Int32} {s : AS} (hf : f_L_law_1397 N L xs k18 l1 l2 l3 s = some r) : Z E yL_law cL_law 4 (some .boolean) 8 s 1397 [(1, .ref l1), (2, .ref l2), (3, .int l3), (0, .ref b)] [] := by
  unfold f_L_law_1397 at hf
  refine z_aload_n 0 dL_law_1397 rfl rfl ?_
  refine z_aload_n 3 dL_law_1398 rfl rfl ?_
  refine z_iload_n 2 dL_law_1399 rfl rfl ?_
  refine z_iconst 1 1 dL_law_1400 (by decide) ?_
  refine z_iadd dL_law_1401 ?_
  refine z_sld hS hf dL_law_1402 (fun v175 hf => ?_)
  obtain ⟨v176, ev176, hf⟩ := ob hf
  refine z_cVi (ci := 11) (T := TX11) (N := 14) (As := [.int v175]) (rest := []) (zm_X11_findings ev176).2 (zm_X11_findings ev176).1 (by decide) rfl (Or.inl rfl) mw_58_16 mw_58_17 mw_58_18 mw_1_2 mw_58_19 yk_X11_findings (by decide) (by decide) rfl (Nat.le_of_ble_eq_true rfl) rfl dL_law_1403 ?_
  refine z_pop dL_law_1406 rfl ?_
  refine z_aload_n 1 dL_law_1407 rfl rfl ?_
  refine z_aload_n 3 dL_law_1408 rfl rfl ?_
  refine z_iload_n 2 dL_law_1409 rfl rfl ?_
  refine z_iconst 1 1 dL_law_1410 (by decide) ?_
  refine z_iadd dL_law_1411 ?_
  refine z_sld hS hf dL_law_1412 (fun v177 hf => ?_)
  obtain ⟨v178, ev178, hf⟩ := ob hf
  refine z_cVi (ci := 12) (T := TX12) (N := 32) (As := [.int v177]) (rest := []) (zm_X12_findings ev178).2 (zm_X12_findings ev178).1 (by decide) rfl (Or.inl rfl) mw_58_21 mw_58_22 mw_58_23 mw_1_5 mw_59_0 yk_X12_findings (by decide) (by decide) rfl (Nat.le_of_ble_eq_true rfl) rfl dL_law_1413 ?_
  refine z_pop dL_law_1416 rfl ?_
  refine z_goto 1469 dL_law_1417 (by decide) ?_
  exact zb_L_law_1469 hE hS hk18 hq18 hf
set_option maxRecDepth 20000 in
theorem le_L_law_1420 {N L : Nat} {xs : Nat → Int32} {k18 : Nat → Nat → Int32 → AS → Option (Int32 × AS)} {r : Int32 × AS} (hk18 : ∀ (l1 : Nat) (l2 : Nat) (l3 : Int32) (s : AS), k18 l1 l2 l3 s = some r → Le s r.2) {l1 : Nat} {l2 : Nat} {l3 : Int32} {s : AS} (hf : f_L_law_1420 N L xs k18 l1 l2 l3 s = some r) : Le s r.2 := by
  unfold f_L_law_1420 at hf
  obtain ⟨v179, -, hf⟩ := ob hf
  obtain ⟨v180, -, hf⟩ := ob hf
  exact Le.via (le_L_law_1469 hk18 hf) rfl
set_option maxRecDepth 20000 in
theorem zb_L_law_1420 {N L : Nat} {xs : Nat → Int32} {b : Nat} {k18 : Nat → Nat → Int32 → AS → Option (Int32 × AS)} {r : Int32 × AS} {E : EV} (hE : TGL E r) (hS : SX E b L xs) (hk18 : ∀ (l1 : Nat) (l2 : Nat) (l3 : Int32) (s : AS), k18 l1 l2 l3 s = some r → Z E yL_law cL_law 4 (some .boolean) 8 s 18 [(1, .ref l1), (2, .ref l2), (3, .int l3), (0, .ref b)] []) (hq18 : ∀ (l1 : Nat) (l2 : Nat) (l3 : Int32) (s : AS), k18 l1 l2 l3 s = some r → Le s r.2) {l1 : Nat} {l2 : Nat} {l3 : Int32} {s : AS} (hf : f_L_law_1420 N L xs k18 l1 l2 l3 s = some r) : Z E yL_law cL_law 4 (some .boolean) 8 s 1420 [(1, .ref l1), (2, .ref l2), (3, .int l3), (0, .ref b)] [] := by
  unfold f_L_law_1420 at hf
  refine z_aload_n 0 dL_law_1420 rfl rfl ?_
  obtain ⟨v179, ev179, hf⟩ := ob hf
  refine z_cVi (ci := 11) (T := TX11) (N := 14) (As := []) (rest := []) (zm_X11_status ev179).2 (zm_X11_status ev179).1 (by decide) rfl (Or.inl rfl) mw_59_1 mw_59_2 mw_59_3 mw_1_2 mw_59_4 yk_X11_status (by decide) (by decide) rfl (Nat.le_of_ble_eq_true rfl) rfl dL_law_1421 ?_
  refine z_pop dL_law_1424 rfl ?_
  refine z_aload_n 1 dL_law_1425 rfl rfl ?_
  obtain ⟨v180, ev180, hf⟩ := ob hf
  refine z_cVi (ci := 12) (T := TX12) (N := 32) (As := []) (rest := []) (zm_X12_status ev180).2 (zm_X12_status ev180).1 (by decide) rfl (Or.inl rfl) mw_59_5 mw_59_6 mw_59_7 mw_1_5 mw_59_8 yk_X12_status (by decide) (by decide) rfl (Nat.le_of_ble_eq_true rfl) rfl dL_law_1426 ?_
  refine z_pop dL_law_1429 rfl ?_
  refine z_goto 1469 dL_law_1430 (by decide) ?_
  exact zb_L_law_1469 hE hS hk18 hq18 hf
set_option maxRecDepth 20000 in
theorem le_L_law_1433 {N L : Nat} {xs : Nat → Int32} {k18 : Nat → Nat → Int32 → AS → Option (Int32 × AS)} {r : Int32 × AS} (hk18 : ∀ (l1 : Nat) (l2 : Nat) (l3 : Int32) (s : AS), k18 l1 l2 l3 s = some r → Le s r.2) {l1 : Nat} {l2 : Nat} {l3 : Int32} {s : AS} (hf : f_L_law_1433 N L xs k18 l1 l2 l3 s = some r) : Le s r.2 := by
  unfold f_L_law_1433 at hf
  obtain ⟨v181, -, hf⟩ := ob hf
  obtain ⟨v182, -, hf⟩ := ob hf
  exact Le.via (le_L_law_1469 hk18 hf) rfl
set_option maxRecDepth 20000 in
theorem zb_L_law_1433 {N L : Nat} {xs : Nat → Int32} {b : Nat} {k18 : Nat → Nat → Int32 → AS → Option (Int32 × AS)} {r : Int32 × AS} {E : EV} (hE : TGL E r) (hS : SX E b L xs) (hk18 : ∀ (l1 : Nat) (l2 : Nat) (l3 : Int32) (s : AS), k18 l1 l2 l3 s = some r → Z E yL_law cL_law 4 (some .boolean) 8 s 18 [(1, .ref l1), (2, .ref l2), (3, .int l3), (0, .ref b)] []) (hq18 : ∀ (l1 : Nat) (l2 : Nat) (l3 : Int32) (s : AS), k18 l1 l2 l3 s = some r → Le s r.2) {l1 : Nat} {l2 : Nat} {l3 : Int32} {s : AS} (hf : f_L_law_1433 N L xs k18 l1 l2 l3 s = some r) : Z E yL_law cL_law 4 (some .boolean) 8 s 1433 [(1, .ref l1), (2, .ref l2), (3, .int l3), (0, .ref b)] [] := by
  unfold f_L_law_1433 at hf
  refine z_aload_n 0 dL_law_1433 rfl rfl ?_
  obtain ⟨v181, ev181, hf⟩ := ob hf
  refine z_cVi (ci := 11) (T := TX11) (N := 14) (As := []) (rest := []) (zm_X11_trace ev181).2 (zm_X11_trace ev181).1 (by decide) rfl (Or.inl rfl) mw_59_9 mw_59_10 mw_59_11 mw_1_2 mw_59_12 yk_X11_trace (by decide) (by decide) rfl (Nat.le_of_ble_eq_true rfl) rfl dL_law_1434 ?_
  refine z_pop dL_law_1437 rfl ?_
  refine z_aload_n 1 dL_law_1438 rfl rfl ?_
  obtain ⟨v182, ev182, hf⟩ := ob hf
  refine z_cVi (ci := 12) (T := TX12) (N := 32) (As := []) (rest := []) (zm_X12_trace ev182).2 (zm_X12_trace ev182).1 (by decide) rfl (Or.inl rfl) mw_59_14 mw_59_15 mw_59_16 mw_1_5 mw_59_17 yk_X12_trace (by decide) (by decide) rfl (Nat.le_of_ble_eq_true rfl) rfl dL_law_1439 ?_
  refine z_pop dL_law_1442 rfl ?_
  refine z_goto 1469 dL_law_1443 (by decide) ?_
  exact zb_L_law_1469 hE hS hk18 hq18 hf
set_option maxRecDepth 20000 in
theorem le_L_law_1446 {N L : Nat} {xs : Nat → Int32} {k18 : Nat → Nat → Int32 → AS → Option (Int32 × AS)} {r : Int32 × AS} (hk18 : ∀ (l1 : Nat) (l2 : Nat) (l3 : Int32) (s : AS), k18 l1 l2 l3 s = some r → Le s r.2) {l1 : Nat} {l2 : Nat} {l3 : Int32} {s : AS} (hf : f_L_law_1446 N L xs k18 l1 l2 l3 s = some r) : Le s r.2 := by
  unfold f_L_law_1446 at hf
  obtain ⟨v183, -, hf⟩ := ob hf
  obtain ⟨v184, -, hf⟩ := ob hf
  obtain ⟨v185, -, hf⟩ := ob hf
  obtain ⟨v186, -, hf⟩ := ob hf
  exact Le.via (le_L_law_1469 hk18 hf) rfl
set_option maxRecDepth 20000 in
theorem zb_L_law_1446 {N L : Nat} {xs : Nat → Int32} {b : Nat} {k18 : Nat → Nat → Int32 → AS → Option (Int32 × AS)} {r : Int32 × AS} {E : EV} (hE : TGL E r) (hS : SX E b L xs) (hk18 : ∀ (l1 : Nat) (l2 : Nat) (l3 : Int32) (s : AS), k18 l1 l2 l3 s = some r → Z E yL_law cL_law 4 (some .boolean) 8 s 18 [(1, .ref l1), (2, .ref l2), (3, .int l3), (0, .ref b)] []) (hq18 : ∀ (l1 : Nat) (l2 : Nat) (l3 : Int32) (s : AS), k18 l1 l2 l3 s = some r → Le s r.2) {l1 : Nat} {l2 : Nat} {l3 : Int32} {s : AS} (hf : f_L_law_1446 N L xs k18 l1 l2 l3 s = some r) : Z E yL_law cL_law 4 (some .boolean) 8 s 1446 [(1, .ref l1), (2, .ref l2), (3, .int l3), (0, .ref b)] [] := by
  unfold f_L_law_1446 at hf
  refine z_aload_n 0 dL_law_1446 rfl rfl ?_
  refine z_aload_n 3 dL_law_1447 rfl rfl ?_
  refine z_iload_n 2 dL_law_1448 rfl rfl ?_
  refine z_iconst 1 1 dL_law_1449 (by decide) ?_
  refine z_iadd dL_law_1450 ?_
  refine z_sld hS hf dL_law_1451 (fun v183 hf => ?_)
  obtain ⟨v184, ev184, hf⟩ := ob hf
  refine z_cVi (ci := 11) (T := TX11) (N := 14) (As := [.int v183]) (rest := []) (zm_X11_count ev184).2 (zm_X11_count ev184).1 (by decide) rfl (Or.inl rfl) mw_59_18 mw_59_19 mw_59_20 mw_1_2 mw_59_21 yk_X11_count (by decide) (by decide) rfl (Nat.le_of_ble_eq_true rfl) rfl dL_law_1452 ?_
  refine z_pop dL_law_1455 rfl ?_
  refine z_aload_n 1 dL_law_1456 rfl rfl ?_
  refine z_aload_n 3 dL_law_1457 rfl rfl ?_
  refine z_iload_n 2 dL_law_1458 rfl rfl ?_
  refine z_iconst 1 1 dL_law_1459 (by decide) ?_
  refine z_iadd dL_law_1460 ?_
  refine z_sld hS hf dL_law_1461 (fun v185 hf => ?_)
  obtain ⟨v186, ev186, hf⟩ := ob hf
  refine z_cVi (ci := 12) (T := TX12) (N := 32) (As := [.int v185]) (rest := []) (zm_X12_count ev186).2 (zm_X12_count ev186).1 (by decide) rfl (Or.inl rfl) mw_59_22 mw_59_23 mw_60_0 mw_1_5 mw_60_1 yk_X12_count (by decide) (by decide) rfl (Nat.le_of_ble_eq_true rfl) rfl dL_law_1462 ?_
  refine z_pop dL_law_1465 rfl ?_
  refine z_goto 1469 dL_law_1466 (by decide) ?_
  exact zb_L_law_1469 hE hS hk18 hq18 hf
set_option maxRecDepth 20000 in
theorem lg_L_law_18 {N L : Nat} {xs : Nat → Int32} {r : Int32 × AS} {k18 : Nat → Nat → Int32 → AS → Option (Int32 × AS)}  (hk18 : ∀ (l1 : Nat) (l2 : Nat) (l3 : Int32) (s : AS), k18 l1 l2 l3 s = some r → Le s r.2) {l1 : Nat} {l2 : Nat} {l3 : Int32} {s : AS} (hf : g_L_law_18 N L xs k18 l1 l2 l3 s = some r) : Le s r.2 := by
  unfold g_L_law_18 at hf
  refine ite_c hf (fun hf => ?_) (fun hf => ?_)
  · exact Le.via (le_L_law_1475 hf) rfl
  · obtain ⟨v3, -, hf⟩ := ob hf
    refine ite_c hf (fun hf => ?_) (fun hf => ?_)
    · exact Le.via (le_L_law_212 hk18 hf) rfl
    refine ite_c hf (fun hf => ?_) (fun hf => ?_)
    · exact Le.via (le_L_law_235 hk18 hf) rfl
    refine ite_c hf (fun hf => ?_) (fun hf => ?_)
    · exact Le.via (le_L_law_304 hk18 hf) rfl
    refine ite_c hf (fun hf => ?_) (fun hf => ?_)
    · exact Le.via (le_L_law_353 hk18 hf) rfl
    refine ite_c hf (fun hf => ?_) (fun hf => ?_)
    · exact Le.via (le_L_law_402 hk18 hf) rfl
    refine ite_c hf (fun hf => ?_) (fun hf => ?_)
    · exact Le.via (le_L_law_435 hk18 hf) rfl
    refine ite_c hf (fun hf => ?_) (fun hf => ?_)
    · exact Le.via (le_L_law_468 hk18 hf) rfl
    refine ite_c hf (fun hf => ?_) (fun hf => ?_)
    · exact Le.via (le_L_law_501 hk18 hf) rfl
    refine ite_c hf (fun hf => ?_) (fun hf => ?_)
    · exact Le.via (le_L_law_544 hk18 hf) rfl
    refine ite_c hf (fun hf => ?_) (fun hf => ?_)
    · exact Le.via (le_L_law_593 hk18 hf) rfl
    refine ite_c hf (fun hf => ?_) (fun hf => ?_)
    · exact Le.via (le_L_law_626 hk18 hf) rfl
    refine ite_c hf (fun hf => ?_) (fun hf => ?_)
    · exact Le.via (le_L_law_649 hk18 hf) rfl
    refine ite_c hf (fun hf => ?_) (fun hf => ?_)
    · exact Le.via (le_L_law_692 hk18 hf) rfl
    refine ite_c hf (fun hf => ?_) (fun hf => ?_)
    · exact Le.via (le_L_law_735 hk18 hf) rfl
    refine ite_c hf (fun hf => ?_) (fun hf => ?_)
    · exact Le.via (le_L_law_768 hk18 hf) rfl
    refine ite_c hf (fun hf => ?_) (fun hf => ?_)
    · exact Le.via (le_L_law_831 hk18 hf) rfl
    refine ite_c hf (fun hf => ?_) (fun hf => ?_)
    · exact Le.via (le_L_law_874 hk18 hf) rfl
    refine ite_c hf (fun hf => ?_) (fun hf => ?_)
    · exact Le.via (le_L_law_897 hk18 hf) rfl
    refine ite_c hf (fun hf => ?_) (fun hf => ?_)
    · exact Le.via (le_L_law_930 hk18 hf) rfl
    refine ite_c hf (fun hf => ?_) (fun hf => ?_)
    · exact Le.via (le_L_law_963 hk18 hf) rfl
    refine ite_c hf (fun hf => ?_) (fun hf => ?_)
    · exact Le.via (le_L_law_1006 hk18 hf) rfl
    refine ite_c hf (fun hf => ?_) (fun hf => ?_)
    · exact Le.via (le_L_law_1029 hk18 hf) rfl
    refine ite_c hf (fun hf => ?_) (fun hf => ?_)
    · exact Le.via (le_L_law_1072 hk18 hf) rfl
    refine ite_c hf (fun hf => ?_) (fun hf => ?_)
    · exact Le.via (le_L_law_1105 hk18 hf) rfl
    refine ite_c hf (fun hf => ?_) (fun hf => ?_)
    · exact Le.via (le_L_law_1128 hk18 hf) rfl
    refine ite_c hf (fun hf => ?_) (fun hf => ?_)
    · exact Le.via (le_L_law_1151 hk18 hf) rfl
    refine ite_c hf (fun hf => ?_) (fun hf => ?_)
    · exact Le.via (le_L_law_1164 hk18 hf) rfl
    refine ite_c hf (fun hf => ?_) (fun hf => ?_)
    · exact Le.via (le_L_law_1197 hk18 hf) rfl
    refine ite_c hf (fun hf => ?_) (fun hf => ?_)
    · exact Le.via (le_L_law_1220 hk18 hf) rfl
    refine ite_c hf (fun hf => ?_) (fun hf => ?_)
    · exact Le.via (le_L_law_1243 hk18 hf) rfl
    refine ite_c hf (fun hf => ?_) (fun hf => ?_)
    · exact Le.via (le_L_law_1256 hk18 hf) rfl
    refine ite_c hf (fun hf => ?_) (fun hf => ?_)
    · exact Le.via (le_L_law_1289 hk18 hf) rfl
    refine ite_c hf (fun hf => ?_) (fun hf => ?_)
    · exact Le.via (le_L_law_1322 hk18 hf) rfl
    refine ite_c hf (fun hf => ?_) (fun hf => ?_)
    · exact Le.via (le_L_law_1335 hk18 hf) rfl
    refine ite_c hf (fun hf => ?_) (fun hf => ?_)
    · exact Le.via (le_L_law_1348 hk18 hf) rfl
    refine ite_c hf (fun hf => ?_) (fun hf => ?_)
    · exact Le.via (le_L_law_1371 hk18 hf) rfl
    refine ite_c hf (fun hf => ?_) (fun hf => ?_)
    · exact Le.via (le_L_law_1384 hk18 hf) rfl
    refine ite_c hf (fun hf => ?_) (fun hf => ?_)
    · exact Le.via (le_L_law_1397 hk18 hf) rfl
    refine ite_c hf (fun hf => ?_) (fun hf => ?_)
    · exact Le.via (le_L_law_1420 hk18 hf) rfl
    refine ite_c hf (fun hf => ?_) (fun hf => ?_)
    · exact Le.via (le_L_law_1433 hk18 hf) rfl
    refine ite_c hf (fun hf => ?_) (fun hf => ?_)
    · exact Le.via (le_L_law_1446 hk18 hf) rfl
    exact Le.via (le_L_law_1469 hk18 hf) rfl
set_option maxRecDepth 20000 in
theorem le_L_law_18 {N L : Nat} {xs : Nat → Int32} {r : Int32 × AS}  : ∀ (n : Nat) (l1 : Nat) (l2 : Nat) (l3 : Int32) (s : AS), f_L_law_18 N L xs n l1 l2 l3 s = some r → Le s r.2 := by
  intro n
  induction n with
  | zero => intro l1 l2 l3 s hf; cases hf
  | succ n ih => intro l1 l2 l3 s hf; exact lg_L_law_18 ih hf
set_option maxRecDepth 20000 in
theorem zg_L_law_18 {N L : Nat} {xs : Nat → Int32} {b : Nat} {r : Int32 × AS} {k18 : Nat → Nat → Int32 → AS → Option (Int32 × AS)} {E : EV} (hE : TGL E r) (hS : SX E b L xs)   (hk18 : ∀ (l1 : Nat) (l2 : Nat) (l3 : Int32) (s : AS), k18 l1 l2 l3 s = some r → Z E yL_law cL_law 4 (some .boolean) 8 s 18 [(1, .ref l1), (2, .ref l2), (3, .int l3), (0, .ref b)] []) (hq18 : ∀ (l1 : Nat) (l2 : Nat) (l3 : Int32) (s : AS), k18 l1 l2 l3 s = some r → Le s r.2) {l1 : Nat} {l2 : Nat} {l3 : Int32} {s : AS} (hf : g_L_law_18 N L xs k18 l1 l2 l3 s = some r) : Z E yL_law cL_law 4 (some .boolean) 8 s 18 [(1, .ref l1), (2, .ref l2), (3, .int l3), (0, .ref b)] [] := by
  unfold g_L_law_18 at hf
  refine z_iload_n 2 dL_law_18 rfl rfl ?_
  refine z_aload_n 3 dL_law_19 rfl rfl ?_
  refine z_slen hS dL_law_20 ?_
  refine z_bipush 6 6 dL_law_21 (by decide) ?_
  refine z_isub dL_law_23 ?_
  refine z_icmp_gt 1475 hf dL_law_24 (by decide) (fun hf => ?_) (fun hf => ?_)
  · refine z_lv [(0, .ref b)] [3] rfl ?_
    exact zb_L_law_1475 hE hS hf
  · refine z_aload_n 3 dL_law_27 rfl rfl ?_
    refine z_iload_n 2 dL_law_28 rfl rfl ?_
    refine z_sld hS hf dL_law_29 (fun v3 hf => ?_)
    refine z_bipush 63 63 dL_law_30 (by decide) ?_
    refine z_iand dL_law_32 ?_
    refine z_tabc (v := 0) 179 212 hf dL_law_33 (by decide) (by decide) rfl (by decide) (fun hf => ?_) (fun n4 hf => ?_)
    · exact zb_L_law_212 hE hS hk18 hq18 hf
    refine z_tabc (v := 1) 202 235 hf dL_law_33 (by decide) (by decide) rfl (by decide) (fun hf => ?_) (fun n5 hf => ?_)
    · exact zb_L_law_235 hE hS hk18 hq18 hf
    refine z_tabc (v := 2) 271 304 hf dL_law_33 (by decide) (by decide) rfl (by decide) (fun hf => ?_) (fun n6 hf => ?_)
    · exact zb_L_law_304 hE hS hk18 hq18 hf
    refine z_tabc (v := 3) 320 353 hf dL_law_33 (by decide) (by decide) rfl (by decide) (fun hf => ?_) (fun n7 hf => ?_)
    · exact zb_L_law_353 hE hS hk18 hq18 hf
    refine z_tabc (v := 4) 369 402 hf dL_law_33 (by decide) (by decide) rfl (by decide) (fun hf => ?_) (fun n8 hf => ?_)
    · exact zb_L_law_402 hE hS hk18 hq18 hf
    refine z_tabc (v := 5) 402 435 hf dL_law_33 (by decide) (by decide) rfl (by decide) (fun hf => ?_) (fun n9 hf => ?_)
    · exact zb_L_law_435 hE hS hk18 hq18 hf
    refine z_tabc (v := 6) 435 468 hf dL_law_33 (by decide) (by decide) rfl (by decide) (fun hf => ?_) (fun n10 hf => ?_)
    · exact zb_L_law_468 hE hS hk18 hq18 hf
    refine z_tabc (v := 7) 468 501 hf dL_law_33 (by decide) (by decide) rfl (by decide) (fun hf => ?_) (fun n11 hf => ?_)
    · exact zb_L_law_501 hE hS hk18 hq18 hf
    refine z_tabc (v := 8) 511 544 hf dL_law_33 (by decide) (by decide) rfl (by decide) (fun hf => ?_) (fun n12 hf => ?_)
    · exact zb_L_law_544 hE hS hk18 hq18 hf
    refine z_tabc (v := 9) 560 593 hf dL_law_33 (by decide) (by decide) rfl (by decide) (fun hf => ?_) (fun n13 hf => ?_)
    · exact zb_L_law_593 hE hS hk18 hq18 hf
    refine z_tabc (v := 10) 593 626 hf dL_law_33 (by decide) (by decide) rfl (by decide) (fun hf => ?_) (fun n14 hf => ?_)
    · exact zb_L_law_626 hE hS hk18 hq18 hf
    refine z_tabc (v := 11) 616 649 hf dL_law_33 (by decide) (by decide) rfl (by decide) (fun hf => ?_) (fun n15 hf => ?_)
    · exact zb_L_law_649 hE hS hk18 hq18 hf
    refine z_tabc (v := 12) 659 692 hf dL_law_33 (by decide) (by decide) rfl (by decide) (fun hf => ?_) (fun n16 hf => ?_)
    · exact zb_L_law_692 hE hS hk18 hq18 hf
    refine z_tabc (v := 13) 702 735 hf dL_law_33 (by decide) (by decide) rfl (by decide) (fun hf => ?_) (fun n17 hf => ?_)
    · exact zb_L_law_735 hE hS hk18 hq18 hf
    refine z_tabc (v := 14) 735 768 hf dL_law_33 (by decide) (by decide) rfl (by decide) (fun hf => ?_) (fun n18 hf => ?_)
    · exact zb_L_law_768 hE hS hk18 hq18 hf
    refine z_tabc (v := 15) 798 831 hf dL_law_33 (by decide) (by decide) rfl (by decide) (fun hf => ?_) (fun n19 hf => ?_)
    · exact zb_L_law_831 hE hS hk18 hq18 hf
    refine z_tabc (v := 16) 841 874 hf dL_law_33 (by decide) (by decide) rfl (by decide) (fun hf => ?_) (fun n20 hf => ?_)
    · exact zb_L_law_874 hE hS hk18 hq18 hf
    refine z_tabc (v := 17) 864 897 hf dL_law_33 (by decide) (by decide) rfl (by decide) (fun hf => ?_) (fun n21 hf => ?_)
    · exact zb_L_law_897 hE hS hk18 hq18 hf
    refine z_tabc (v := 18) 897 930 hf dL_law_33 (by decide) (by decide) rfl (by decide) (fun hf => ?_) (fun n22 hf => ?_)
    · exact zb_L_law_930 hE hS hk18 hq18 hf
    refine z_tabc (v := 19) 930 963 hf dL_law_33 (by decide) (by decide) rfl (by decide) (fun hf => ?_) (fun n23 hf => ?_)
    · exact zb_L_law_963 hE hS hk18 hq18 hf
    refine z_tabc (v := 20) 973 1006 hf dL_law_33 (by decide) (by decide) rfl (by decide) (fun hf => ?_) (fun n24 hf => ?_)
    · exact zb_L_law_1006 hE hS hk18 hq18 hf
    refine z_tabc (v := 21) 996 1029 hf dL_law_33 (by decide) (by decide) rfl (by decide) (fun hf => ?_) (fun n25 hf => ?_)
    · exact zb_L_law_1029 hE hS hk18 hq18 hf
    refine z_tabc (v := 22) 1039 1072 hf dL_law_33 (by decide) (by decide) rfl (by decide) (fun hf => ?_) (fun n26 hf => ?_)
    · exact zb_L_law_1072 hE hS hk18 hq18 hf
    refine z_tabc (v := 23) 1072 1105 hf dL_law_33 (by decide) (by decide) rfl (by decide) (fun hf => ?_) (fun n27 hf => ?_)
    · exact zb_L_law_1105 hE hS hk18 hq18 hf
    refine z_tabc (v := 24) 1095 1128 hf dL_law_33 (by decide) (by decide) rfl (by decide) (fun hf => ?_) (fun n28 hf => ?_)
    · exact zb_L_law_1128 hE hS hk18 hq18 hf
    refine z_tabc (v := 25) 1118 1151 hf dL_law_33 (by decide) (by decide) rfl (by decide) (fun hf => ?_) (fun n29 hf => ?_)
    · exact zb_L_law_1151 hE hS hk18 hq18 hf
    refine z_tabc (v := 26) 1131 1164 hf dL_law_33 (by decide) (by decide) rfl (by decide) (fun hf => ?_) (fun n30 hf => ?_)
    · exact zb_L_law_1164 hE hS hk18 hq18 hf
    refine z_tabc (v := 27) 1164 1197 hf dL_law_33 (by decide) (by decide) rfl (by decide) (fun hf => ?_) (fun n31 hf => ?_)
    · exact zb_L_law_1197 hE hS hk18 hq18 hf
    refine z_tabc (v := 28) 1187 1220 hf dL_law_33 (by decide) (by decide) rfl (by decide) (fun hf => ?_) (fun n32 hf => ?_)
    · exact zb_L_law_1220 hE hS hk18 hq18 hf
    refine z_tabc (v := 29) 1210 1243 hf dL_law_33 (by decide) (by decide) rfl (by decide) (fun hf => ?_) (fun n33 hf => ?_)
    · exact zb_L_law_1243 hE hS hk18 hq18 hf
    refine z_tabc (v := 30) 1223 1256 hf dL_law_33 (by decide) (by decide) rfl (by decide) (fun hf => ?_) (fun n34 hf => ?_)
    · exact zb_L_law_1256 hE hS hk18 hq18 hf
    refine z_tabc (v := 31) 1256 1289 hf dL_law_33 (by decide) (by decide) rfl (by decide) (fun hf => ?_) (fun n35 hf => ?_)
    · exact zb_L_law_1289 hE hS hk18 hq18 hf
    refine z_tabc (v := 32) 1289 1322 hf dL_law_33 (by decide) (by decide) rfl (by decide) (fun hf => ?_) (fun n36 hf => ?_)
    · exact zb_L_law_1322 hE hS hk18 hq18 hf
    refine z_tabc (v := 33) 1302 1335 hf dL_law_33 (by decide) (by decide) rfl (by decide) (fun hf => ?_) (fun n37 hf => ?_)
    · exact zb_L_law_1335 hE hS hk18 hq18 hf
    refine z_tabc (v := 34) 1315 1348 hf dL_law_33 (by decide) (by decide) rfl (by decide) (fun hf => ?_) (fun n38 hf => ?_)
    · exact zb_L_law_1348 hE hS hk18 hq18 hf
    refine z_tabc (v := 35) 1338 1371 hf dL_law_33 (by decide) (by decide) rfl (by decide) (fun hf => ?_) (fun n39 hf => ?_)
    · exact zb_L_law_1371 hE hS hk18 hq18 hf
    refine z_tabc (v := 36) 1351 1384 hf dL_law_33 (by decide) (by decide) rfl (by decide) (fun hf => ?_) (fun n40 hf => ?_)
    · exact zb_L_law_1384 hE hS hk18 hq18 hf
    refine z_tabc (v := 37) 1364 1397 hf dL_law_33 (by decide) (by decide) rfl (by decide) (fun hf => ?_) (fun n41 hf => ?_)
    · exact zb_L_law_1397 hE hS hk18 hq18 hf
    refine z_tabc (v := 38) 1387 1420 hf dL_law_33 (by decide) (by decide) rfl (by decide) (fun hf => ?_) (fun n42 hf => ?_)
    · exact zb_L_law_1420 hE hS hk18 hq18 hf
    refine z_tabc (v := 39) 1400 1433 hf dL_law_33 (by decide) (by decide) rfl (by decide) (fun hf => ?_) (fun n43 hf => ?_)
    · exact zb_L_law_1433 hE hS hk18 hq18 hf
    refine z_tabc (v := 40) 1413 1446 hf dL_law_33 (by decide) (by decide) rfl (by decide) (fun hf => ?_) (fun n44 hf => ?_)
    · exact zb_L_law_1446 hE hS hk18 hq18 hf
    refine z_tabd 1469 dL_law_33 (by have qn4 := tab_out 0 (by decide) n4; have qn5 := tab_out 1 (by decide) n5; have qn6 := tab_out 2 (by decide) n6; have qn7 := tab_out 3 (by decide) n7; have qn8 := tab_out 4 (by decide) n8; have qn9 := tab_out 5 (by decide) n9; have qn10 := tab_out 6 (by decide) n10; have qn11 := tab_out 7 (by decide) n11; have qn12 := tab_out 8 (by decide) n12; have qn13 := tab_out 9 (by decide) n13; have qn14 := tab_out 10 (by decide) n14; have qn15 := tab_out 11 (by decide) n15; have qn16 := tab_out 12 (by decide) n16; have qn17 := tab_out 13 (by decide) n17; have qn18 := tab_out 14 (by decide) n18; have qn19 := tab_out 15 (by decide) n19; have qn20 := tab_out 16 (by decide) n20; have qn21 := tab_out 17 (by decide) n21; have qn22 := tab_out 18 (by decide) n22; have qn23 := tab_out 19 (by decide) n23; have qn24 := tab_out 20 (by decide) n24; have qn25 := tab_out 21 (by decide) n25; have qn26 := tab_out 22 (by decide) n26; have qn27 := tab_out 23 (by decide) n27; have qn28 := tab_out 24 (by decide) n28; have qn29 := tab_out 25 (by decide) n29; have qn30 := tab_out 26 (by decide) n30; have qn31 := tab_out 27 (by decide) n31; have qn32 := tab_out 28 (by decide) n32; have qn33 := tab_out 29 (by decide) n33; have qn34 := tab_out 30 (by decide) n34; have qn35 := tab_out 31 (by decide) n35; have qn36 := tab_out 32 (by decide) n36; have qn37 := tab_out 33 (by decide) n37; have qn38 := tab_out 34 (by decide) n38; have qn39 := tab_out 35 (by decide) n39; have qn40 := tab_out 36 (by decide) n40; have qn41 := tab_out 37 (by decide) n41; have qn42 := tab_out 38 (by decide) n42; have qn43 := tab_out 39 (by decide) n43; have qn44 := tab_out 40 (by decide) n44; omega) (by decide) ?_
    exact zb_L_law_1469 hE hS hk18 hq18 hf
set_option maxRecDepth 20000 in
theorem zb_L_law_18 {N L : Nat} {xs : Nat → Int32} {b : Nat} {r : Int32 × AS} {E : EV} (hE : TGL E r) (hS : SX E b L xs)   : ∀ (n : Nat) (l1 : Nat) (l2 : Nat) (l3 : Int32) (s : AS), f_L_law_18 N L xs n l1 l2 l3 s = some r → Z E yL_law cL_law 4 (some .boolean) 8 s 18 [(1, .ref l1), (2, .ref l2), (3, .int l3), (0, .ref b)] [] := by
  intro n
  induction n with
  | zero => intro l1 l2 l3 s hf; cases hf
  | succ n ih => intro l1 l2 l3 s hf; exact zg_L_law_18 hE hS ih (le_L_law_18 n) hf
set_option maxRecDepth 20000 in
theorem le_L_law_15 {N L : Nat} {xs : Nat → Int32} {r : Int32 × AS}  {l1 : Nat} {t0 : Nat} {s : AS} (hf : f_L_law_15 N L xs l1 t0 s = some r) : Le s r.2 := by
  unfold f_L_law_15 at hf
  exact Le.via (le_L_law_18 N _ _ _ _ hf) rfl
set_option maxRecDepth 20000 in
theorem zb_L_law_15 {N L : Nat} {xs : Nat → Int32} {b : Nat} {r : Int32 × AS} {E : EV} (hE : TGL E r) (hS : SX E b L xs)   {l1 : Nat} {t0 : Nat} {s : AS} (hf : f_L_law_15 N L xs l1 t0 s = some r) : Z E yL_law cL_law 4 (some .boolean) 8 s 15 [(1, .ref l1), (0, .ref b)] [.ref t0] := by
  unfold f_L_law_15 at hf
  refine z_astore_n [(2, .ref t0), (1, .ref l1), (0, .ref b)] dL_law_15 rfl (by decide) rfl ?_
  refine z_iconst 0 0 dL_law_16 (by decide) ?_
  refine z_istore_n [(3, .int (0 : Int32)), (2, .ref t0), (1, .ref l1), (0, .ref b)] dL_law_17 rfl (by decide) rfl ?_
  refine z_lv [(1, .ref l1), (2, .ref t0), (3, .int (0 : Int32)), (0, .ref b)] [2, 1, 0, 3] rfl ?_
  exact zb_L_law_18 hE hS N _ _ _ _ hf
set_option maxRecDepth 20000 in
theorem le_L_law_11 {N L : Nat} {xs : Nat → Int32} {r : Int32 × AS}  {l1 : Nat} {t0 : Nat} {s : AS} (hf : f_L_law_11 N L xs l1 t0 s = some r) : Le s r.2 := by
  unfold f_L_law_11 at hf
  obtain ⟨v2, ev2, hf⟩ := ob hf
  refine Le.of (t := (s.1, s.2)) rfl ((lm_X12_init ev2).tr ?_)
  exact Le.via (le_L_law_15 hf) rfl
set_option maxRecDepth 20000 in
theorem zb_L_law_11 {N L : Nat} {xs : Nat → Int32} {b : Nat} {r : Int32 × AS} {E : EV} (hE : TGL E r) (hS : SX E b L xs)   {l1 : Nat} {t0 : Nat} {s : AS} (hf : f_L_law_11 N L xs l1 t0 s = some r) : Z E yL_law cL_law 4 (some .boolean) 8 s 11 [(1, .ref l1), (0, .ref b)] [.ref t0] := by
  unfold f_L_law_11 at hf
  refine z_dup dL_law_11 rfl ?_
  obtain ⟨v2, ev2, hf⟩ := ob hf
  refine z_cI (As := []) (rest := [.ref t0]) (zm_X12_init ev2).2 (Or.inr (tgl_le hE (le_L_law_15 hf))) mw_6_15 mw_6_16 mw_1_5 mw_6_17 rfl yk_X12_init (by decide) (by decide) rfl (Nat.le_of_ble_eq_true rfl) rfl dL_law_12 ?_
  exact zb_L_law_15 hE hS hf
set_option maxRecDepth 20000 in
theorem le_L_law_7 {N L : Nat} {xs : Nat → Int32} {r : Int32 × AS}  {t0 : Nat} {s : AS} (hf : f_L_law_7 N L xs t0 s = some r) : Le s r.2 := by
  unfold f_L_law_7 at hf
  refine Le.of (t := (s.1, s.2)) rfl (le_nObj.tr (u := _) (t := nObj (s.1, s.2) 12) ?_)
  exact Le.via (le_L_law_11 hf) rfl
set_option maxRecDepth 20000 in
theorem zb_L_law_7 {N L : Nat} {xs : Nat → Int32} {b : Nat} {r : Int32 × AS} {E : EV} (hE : TGL E r) (hS : SX E b L xs)   {t0 : Nat} {s : AS} (hf : f_L_law_7 N L xs t0 s = some r) : Z E yL_law cL_law 4 (some .boolean) 8 s 7 [(0, .ref b)] [.ref t0] := by
  unfold f_L_law_7 at hf
  refine z_astore_n [(1, .ref t0), (0, .ref b)] dL_law_7 rfl (by decide) rfl ?_
  refine z_newo (ci := 12) (C := RX12) (T := TX12) (N := 32) rfl inlX12 tyX12 tyX12_ok mw_1_3 mw_1_4 mw_1_5 rfl df_12 (tgl_le hE (le_L_law_11 hf)) dL_law_8 ?_
  exact zb_L_law_11 hE hS hf
set_option maxRecDepth 20000 in
theorem le_L_law_3 {N L : Nat} {xs : Nat → Int32} {r : Int32 × AS}  {t0 : Nat} {s : AS} (hf : f_L_law_3 N L xs t0 s = some r) : Le s r.2 := by
  unfold f_L_law_3 at hf
  obtain ⟨v1, ev1, hf⟩ := ob hf
  refine Le.of (t := (s.1, s.2)) rfl ((lm_X11_init ev1).tr ?_)
  exact Le.via (le_L_law_7 hf) rfl
set_option maxRecDepth 20000 in
theorem zb_L_law_3 {N L : Nat} {xs : Nat → Int32} {b : Nat} {r : Int32 × AS} {E : EV} (hE : TGL E r) (hS : SX E b L xs)   {t0 : Nat} {s : AS} (hf : f_L_law_3 N L xs t0 s = some r) : Z E yL_law cL_law 4 (some .boolean) 8 s 3 [(0, .ref b)] [.ref t0] := by
  unfold f_L_law_3 at hf
  refine z_dup dL_law_3 rfl ?_
  obtain ⟨v1, ev1, hf⟩ := ob hf
  refine z_cI (As := []) (rest := [.ref t0]) (zm_X11_init ev1).2 (Or.inr (tgl_le hE (le_L_law_7 hf))) mw_1_6 mw_1_7 mw_1_2 mw_1_8 rfl yk_X11_init (by decide) (by decide) rfl (Nat.le_of_ble_eq_true rfl) rfl dL_law_4 ?_
  exact zb_L_law_7 hE hS hf
set_option maxRecDepth 20000 in
theorem lm_L_law {N L : Nat} {xs : Nat → Int32} {s : AS}  {r : Int32 × AS} (hf : f_L_law N L xs  s = some r) : Le s r.2 := by
  unfold f_L_law at hf
  refine Le.of (t := (s.1, s.2)) rfl (le_nObj.tr (u := _) (t := nObj (s.1, s.2) 11) ?_)
  exact Le.via (le_L_law_3 hf) rfl
set_option maxRecDepth 20000 in
theorem zl_L_law {N L : Nat} {xs : Nat → Int32} {b : Nat} {s : AS} {r : Int32 × AS} {E : EV} (hE : TGL E r) (hS : SX E b L xs) (hf : f_L_law N L xs s = some r) : Z E yL_law cL_law 4 (some .boolean) 8 s 0 [(0, .ref b)] [] := by
  unfold f_L_law at hf
  refine z_newo (ci := 11) (C := RX11) (T := TX11) (N := 14) rfl inlX11 tyX11 tyX11_ok mw_1_0 mw_1_1 mw_1_2 rfl df_11 (tgl_le hE (le_L_law_3 hf)) dL_law_0 ?_
  exact zb_L_law_3 hE hS hf
