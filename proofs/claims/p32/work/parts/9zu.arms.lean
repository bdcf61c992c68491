/-! the arms of the law's loop, one for each call -/
section ARMS
variable {s : AS} {z c p L N : Nat} {xs : Nat → Int32} {k18 : Nat → Nat → Int32 → AS → Option (Int32 × AS)} {Q : Int32 × AS → Prop}
theorem wk_told {R : Nat → Int32} {x w : Int32} : WKo (sp_told R x w) := fun R' e => by
  unfold sp_told at e
  repeat (first | cases e | split at e)
theorem arm_0 (hN : 2 ^ 40 ≤ N) (hL : L ≤ 3072) (hp : p + 6 ≤ L) (h : LI z c s) (kk : ∀ s, LI z (c + 1) s → Rn (k18 z (z + 242) (nI p + 6) s) Q) : Rn (f_L_law_212 N L xs k18 z (z + 242) (nI p) s) Q := by
  obtain ⟨ow, R, K, u, y, c', hc, hC, hI, hR, hK⟩ := h
  have hc1 : c' ≤ c + 1 := by omega
  unfold f_L_law_212
  refine rn_eq (sld_ok hL hp 1 rfl (by decide)) ?_
  refine rn_bind (k_crossings (by omega) hC hR.1 hK.1) (fun r hr => ?_)
  obtain ⟨ow1, y1, hC1, hI1⟩ := li_k hI hr
  unfold f_L_law_221
  refine rn_eq (sld_ok hL hp 1 rfl (by decide)) ?_
  refine rn_bind (m_crossings (by omega) hC1.1 hI1) (fun q hq => ?_)
  unfold f_L_law_1469
  exact kk _ (li_m hC1 hq (wk_crossings hR) hR hK hc1)
theorem arm_1 (hN : 2 ^ 40 ≤ N) (hL : L ≤ 3072) (hp : p + 6 ≤ L) (h : LI z c s) (kk : ∀ s, LI z (c + 1) s → Rn (k18 z (z + 242) (nI p + 6) s) Q) : Rn (f_L_law_235 N L xs k18 z (z + 242) (nI p) s) Q := by
  obtain ⟨ow, R, K, u, y, c', hc, hC, hI, hR, hK⟩ := h
  have hc1 : c' ≤ c + 1 := by omega
  unfold f_L_law_235
  refine rn_eq (sld_ok hL hp 1 rfl (by decide)) ?_
  refine rn_eq (sld_ok hL hp 2 rfl (by decide)) ?_
  refine rn_eq (sld_ok hL hp 3 rfl (by decide)) ?_
  refine rn_eq (sld_ok hL hp 4 rfl (by decide)) ?_
  by_cases hb : xs (p + 4) = 0
  · refine rn_t hb ?_
    unfold f_L_law_264
    refine rn_bind (k_street (by omega) hC hR.1 hK.1) (fun r hr => ?_)
    obtain ⟨ow1, y1, hC1, hI1⟩ := li_k hI hr
    unfold f_L_law_267
    refine rn_eq (sld_ok hL hp 1 rfl (by decide)) ?_
    refine rn_eq (sld_ok hL hp 2 rfl (by decide)) ?_
    refine rn_eq (sld_ok hL hp 3 rfl (by decide)) ?_
    refine rn_eq (sld_ok hL hp 4 rfl (by decide)) ?_
    refine rn_t hb ?_
    unfold f_L_law_297
    refine rn_bind (m_street (by omega) hC1.1 hI1 hR.1) (fun q hq => ?_)
    unfold f_L_law_1469
    exact kk _ (li_m hC1 hq (wk_street hR) hR hK hc1)
  · refine rn_f hb ?_
    unfold f_L_law_264
    refine rn_bind (k_street (by omega) hC hR.1 hK.1) (fun r hr => ?_)
    obtain ⟨ow1, y1, hC1, hI1⟩ := li_k hI hr
    unfold f_L_law_267
    refine rn_eq (sld_ok hL hp 1 rfl (by decide)) ?_
    refine rn_eq (sld_ok hL hp 2 rfl (by decide)) ?_
    refine rn_eq (sld_ok hL hp 3 rfl (by decide)) ?_
    refine rn_eq (sld_ok hL hp 4 rfl (by decide)) ?_
    refine rn_f hb ?_
    unfold f_L_law_297
    refine rn_bind (m_street (by omega) hC1.1 hI1 hR.1) (fun q hq => ?_)
    unfold f_L_law_1469
    exact kk _ (li_m hC1 hq (wk_street hR) hR hK hc1)
theorem arm_2 (hN : 2 ^ 40 ≤ N) (hL : L ≤ 3072) (hp : p + 6 ≤ L) (h : LI z c s) (kk : ∀ s, LI z (c + 1) s → Rn (k18 z (z + 242) (nI p + 6) s) Q) : Rn (f_L_law_304 N L xs k18 z (z + 242) (nI p) s) Q := by
  obtain ⟨ow, R, K, u, y, c', hc, hC, hI, hR, hK⟩ := h
  have hc1 : c' ≤ c + 1 := by omega
  unfold f_L_law_304
  refine rn_eq (sld_ok hL hp 1 rfl (by decide)) ?_
  refine rn_eq (sld_ok hL hp 2 rfl (by decide)) ?_
  by_cases hb : xs (p + 2) = 0
  · refine rn_t hb ?_
    unfold f_L_law_323
    refine rn_bind (k_oneWay (by omega) hC hR.1 hK.1) (fun r hr => ?_)
    obtain ⟨ow1, y1, hC1, hI1⟩ := li_k hI hr
    unfold f_L_law_326
    refine rn_eq (sld_ok hL hp 1 rfl (by decide)) ?_
    refine rn_eq (sld_ok hL hp 2 rfl (by decide)) ?_
    refine rn_t hb ?_
    unfold f_L_law_346
    refine rn_bind (m_oneWay (by omega) hC1.1 hI1 hR.1.1) (fun q hq => ?_)
    unfold f_L_law_1469
    exact kk _ (li_m hC1 hq (wk_turn hR (Or.inr rfl) (by decide)) hR hK hc1)
  · refine rn_f hb ?_
    unfold f_L_law_323
    refine rn_bind (k_oneWay (by omega) hC hR.1 hK.1) (fun r hr => ?_)
    obtain ⟨ow1, y1, hC1, hI1⟩ := li_k hI hr
    unfold f_L_law_326
    refine rn_eq (sld_ok hL hp 1 rfl (by decide)) ?_
    refine rn_eq (sld_ok hL hp 2 rfl (by decide)) ?_
    refine rn_f hb ?_
    unfold f_L_law_346
    refine rn_bind (m_oneWay (by omega) hC1.1 hI1 hR.1.1) (fun q hq => ?_)
    unfold f_L_law_1469
    exact kk _ (li_m hC1 hq (wk_turn hR (Or.inr rfl) (by decide)) hR hK hc1)
theorem arm_3 (hN : 2 ^ 40 ≤ N) (hL : L ≤ 3072) (hp : p + 6 ≤ L) (h : LI z c s) (kk : ∀ s, LI z (c + 1) s → Rn (k18 z (z + 242) (nI p + 6) s) Q) : Rn (f_L_law_353 N L xs k18 z (z + 242) (nI p) s) Q := by
  obtain ⟨ow, R, K, u, y, c', hc, hC, hI, hR, hK⟩ := h
  have hc1 : c' ≤ c + 1 := by omega
  unfold f_L_law_353
  refine rn_eq (sld_ok hL hp 1 rfl (by decide)) ?_
  refine rn_eq (sld_ok hL hp 2 rfl (by decide)) ?_
  by_cases hb : xs (p + 2) = 0
  · refine rn_t hb ?_
    unfold f_L_law_372
    refine rn_bind (k_shut (by omega) hC hR.1 hK.1) (fun r hr => ?_)
    obtain ⟨ow1, y1, hC1, hI1⟩ := li_k hI hr
    unfold f_L_law_375
    refine rn_eq (sld_ok hL hp 1 rfl (by decide)) ?_
    refine rn_eq (sld_ok hL hp 2 rfl (by decide)) ?_
    refine rn_t hb ?_
    unfold f_L_law_395
    refine rn_bind (m_shut (by omega) hC1.1 hI1 hR.1.1) (fun q hq => ?_)
    unfold f_L_law_1469
    exact kk _ (li_m hC1 hq (wk_turn hR (Or.inl rfl) (by decide)) hR hK hc1)
  · refine rn_f hb ?_
    unfold f_L_law_372
    refine rn_bind (k_shut (by omega) hC hR.1 hK.1) (fun r hr => ?_)
    obtain ⟨ow1, y1, hC1, hI1⟩ := li_k hI hr
    unfold f_L_law_375
    refine rn_eq (sld_ok hL hp 1 rfl (by decide)) ?_
    refine rn_eq (sld_ok hL hp 2 rfl (by decide)) ?_
    refine rn_f hb ?_
    unfold f_L_law_395
    refine rn_bind (m_shut (by omega) hC1.1 hI1 hR.1.1) (fun q hq => ?_)
    unfold f_L_law_1469
    exact kk _ (li_m hC1 hq (wk_turn hR (Or.inl rfl) (by decide)) hR hK hc1)
theorem arm_4 (hN : 2 ^ 40 ≤ N) (hL : L ≤ 3072) (hp : p + 6 ≤ L) (h : LI z c s) (kk : ∀ s, LI z (c + 1) s → Rn (k18 z (z + 242) (nI p + 6) s) Q) : Rn (f_L_law_402 N L xs k18 z (z + 242) (nI p) s) Q := by
  obtain ⟨ow, R, K, u, y, c', hc, hC, hI, hR, hK⟩ := h
  have hc1 : c' ≤ c + 1 := by omega
  unfold f_L_law_402
  refine rn_eq (sld_ok hL hp 1 rfl (by decide)) ?_
  refine rn_eq (sld_ok hL hp 2 rfl (by decide)) ?_
  refine rn_bind (k_sides (by omega) hC hR.1 hK.1) (fun r hr => ?_)
  obtain ⟨ow1, y1, hC1, hI1⟩ := li_k hI hr
  unfold f_L_law_416
  refine rn_eq (sld_ok hL hp 1 rfl (by decide)) ?_
  refine rn_eq (sld_ok hL hp 2 rfl (by decide)) ?_
  refine rn_bind (m_sides (by omega) hC1.1 hI1 hR.1.1) (fun q hq => ?_)
  unfold f_L_law_1469
  exact kk _ (li_m hC1 hq (wk_sides hR) hR hK hc1)
theorem arm_5 (hN : 2 ^ 40 ≤ N) (hL : L ≤ 3072) (hp : p + 6 ≤ L) (h : LI z c s) (kk : ∀ s, LI z (c + 1) s → Rn (k18 z (z + 242) (nI p + 6) s) Q) : Rn (f_L_law_435 N L xs k18 z (z + 242) (nI p) s) Q := by
  obtain ⟨ow, R, K, u, y, c', hc, hC, hI, hR, hK⟩ := h
  have hc1 : c' ≤ c + 1 := by omega
  unfold f_L_law_435
  refine rn_eq (sld_ok hL hp 1 rfl (by decide)) ?_
  refine rn_eq (sld_ok hL hp 2 rfl (by decide)) ?_
  refine rn_bind (k_told hC hR.1) (fun r hr => ?_)
  obtain ⟨ow1, y1, hC1, hI1⟩ := li_k hI hr
  refine rn_eq (sld_ok hL hp 1 rfl (by decide)) ?_
  refine rn_eq (sld_ok hL hp 2 rfl (by decide)) ?_
  refine rn_bind (m_told hC1.1 hI1 hR.1.1) (fun q hq => ?_)
  unfold f_L_law_1469
  exact kk _ (li_m (s1 := (s.1, r.2)) hC1 hq (wk_told) hR hK hc1)
theorem arm_6 (hN : 2 ^ 40 ≤ N) (hL : L ≤ 3072) (hp : p + 6 ≤ L) (h : LI z c s) (kk : ∀ s, LI z (c + 1) s → Rn (k18 z (z + 242) (nI p + 6) s) Q) : Rn (f_L_law_468 N L xs k18 z (z + 242) (nI p) s) Q := by
  obtain ⟨ow, R, K, u, y, c', hc, hC, hI, hR, hK⟩ := h
  have hc1 : c' ≤ c + 1 := by omega
  unfold f_L_law_468
  refine rn_eq (sld_ok hL hp 1 rfl (by decide)) ?_
  refine rn_eq (sld_ok hL hp 2 rfl (by decide)) ?_
  refine rn_bind (k_way2 (by omega) hC hR.1) (fun r hr => ?_)
  obtain ⟨ow1, y1, hC1, hI1⟩ := li_k hI hr
  refine rn_eq (sld_ok hL hp 1 rfl (by decide)) ?_
  refine rn_eq (sld_ok hL hp 2 rfl (by decide)) ?_
  refine rn_bind (m_way2 (by omega) hC1.1 hI1 hR.1) (fun q hq => ?_)
  unfold f_L_law_1469
  exact kk _ (li_m (s1 := (s.1, r.2)) hC1 hq wk_way hR hK hc1)
theorem arm_7 (hN : 2 ^ 40 ≤ N) (hL : L ≤ 3072) (hp : p + 6 ≤ L) (h : LI z c s) (kk : ∀ s, LI z (c + 1) s → Rn (k18 z (z + 242) (nI p + 6) s) Q) : Rn (f_L_law_501 N L xs k18 z (z + 242) (nI p) s) Q := by
  obtain ⟨ow, R, K, u, y, c', hc, hC, hI, hR, hK⟩ := h
  have hc1 : c' ≤ c + 1 := by omega
  unfold f_L_law_501
  refine rn_eq (sld_ok hL hp 1 rfl (by decide)) ?_
  refine rn_eq (sld_ok hL hp 2 rfl (by decide)) ?_
  refine rn_eq (sld_ok hL hp 3 rfl (by decide)) ?_
  refine rn_bind (k_wayAt2 (by omega) hC hR.1) (fun r hr => ?_)
  obtain ⟨ow1, y1, hC1, hI1⟩ := li_k hI hr
  refine rn_eq (sld_ok hL hp 1 rfl (by decide)) ?_
  refine rn_eq (sld_ok hL hp 2 rfl (by decide)) ?_
  refine rn_eq (sld_ok hL hp 3 rfl (by decide)) ?_
  refine rn_bind (m_wayAt2 (by omega) hC1.1 hI1 hR.1) (fun q hq => ?_)
  unfold f_L_law_1469
  exact kk _ (li_m (s1 := (s.1, r.2)) hC1 hq wk_wayAt hR hK hc1)
theorem arm_8 (hN : 2 ^ 40 ≤ N) (hL : L ≤ 3072) (hp : p + 6 ≤ L) (h : LI z c s) (kk : ∀ s, LI z (c + 1) s → Rn (k18 z (z + 242) (nI p + 6) s) Q) : Rn (f_L_law_544 N L xs k18 z (z + 242) (nI p) s) Q := by
  obtain ⟨ow, R, K, u, y, c', hc, hC, hI, hR, hK⟩ := h
  have hc1 : c' ≤ c + 1 := by omega
  unfold f_L_law_544
  refine rn_eq (sld_ok hL hp 1 rfl (by decide)) ?_
  refine rn_eq (sld_ok hL hp 2 rfl (by decide)) ?_
  by_cases hb : xs (p + 2) = 0
  · refine rn_t hb ?_
    unfold f_L_law_563
    refine rn_bind (k_gauge (by omega) hC hR.1 hK.1) (fun r hr => ?_)
    obtain ⟨ow1, y1, hC1, hI1⟩ := li_k hI hr
    unfold f_L_law_566
    refine rn_eq (sld_ok hL hp 1 rfl (by decide)) ?_
    refine rn_eq (sld_ok hL hp 2 rfl (by decide)) ?_
    refine rn_t hb ?_
    unfold f_L_law_586
    refine rn_bind (m_gauge (by omega) hC1.1 hI1 hR.1) (fun q hq => ?_)
    unfold f_L_law_1469
    exact kk _ (li_m hC1 hq (wk_gauge hR) hR hK hc1)
  · refine rn_f hb ?_
    unfold f_L_law_563
    refine rn_bind (k_gauge (by omega) hC hR.1 hK.1) (fun r hr => ?_)
    obtain ⟨ow1, y1, hC1, hI1⟩ := li_k hI hr
    unfold f_L_law_566
    refine rn_eq (sld_ok hL hp 1 rfl (by decide)) ?_
    refine rn_eq (sld_ok hL hp 2 rfl (by decide)) ?_
    refine rn_f hb ?_
    unfold f_L_law_586
    refine rn_bind (m_gauge (by omega) hC1.1 hI1 hR.1) (fun q hq => ?_)
    unfold f_L_law_1469
    exact kk _ (li_m hC1 hq (wk_gauge hR) hR hK hc1)
theorem arm_9 (hN : 2 ^ 40 ≤ N) (hL : L ≤ 3072) (hp : p + 6 ≤ L) (h : LI z c s) (kk : ∀ s, LI z (c + 1) s → Rn (k18 z (z + 242) (nI p + 6) s) Q) : Rn (f_L_law_593 N L xs k18 z (z + 242) (nI p) s) Q := by
  obtain ⟨ow, R, K, u, y, c', hc, hC, hI, hR, hK⟩ := h
  have hc1 : c' ≤ c + 1 := by omega
  unfold f_L_law_593
  refine rn_eq (sld_ok hL hp 1 rfl (by decide)) ?_
  refine rn_eq (sld_ok hL hp 2 rfl (by decide)) ?_
  refine rn_bind (k_row (by omega) hC hR.1 hK.1) (fun r hr => ?_)
  obtain ⟨ow1, y1, hC1, hI1⟩ := li_k hI hr
  unfold f_L_law_607
  refine rn_eq (sld_ok hL hp 1 rfl (by decide)) ?_
  refine rn_eq (sld_ok hL hp 2 rfl (by decide)) ?_
  refine rn_bind (m_row (by omega) hC1.1 hI1 hR.1) (fun q hq => ?_)
  unfold f_L_law_1469
  exact kk _ (li_m hC1 hq (wk_row hR) hR hK hc1)
theorem arm_10 (hN : 2 ^ 40 ≤ N) (hL : L ≤ 3072) (hp : p + 6 ≤ L) (h : LI z c s) (kk : ∀ s, LI z (c + 1) s → Rn (k18 z (z + 242) (nI p + 6) s) Q) : Rn (f_L_law_626 N L xs k18 z (z + 242) (nI p) s) Q := by
  obtain ⟨ow, R, K, u, y, c', hc, hC, hI, hR, hK⟩ := h
  have hc1 : c' ≤ c + 1 := by omega
  unfold f_L_law_626
  refine rn_eq (sld_ok hL hp 1 rfl (by decide)) ?_
  refine rn_bind (k_lose (by omega) hC hR.1 hK.1) (fun r hr => ?_)
  obtain ⟨ow1, y1, hC1, hI1⟩ := li_k hI hr
  unfold f_L_law_635
  refine rn_eq (sld_ok hL hp 1 rfl (by decide)) ?_
  refine rn_bind (m_lose (by omega) hC1.1 hI1 hR.1) (fun q hq => ?_)
  unfold f_L_law_1469
  exact kk _ (li_m hC1 hq (wk_lose hR) hR hK hc1)
theorem arm_11 (hN : 2 ^ 40 ≤ N) (hL : L ≤ 3072) (hp : p + 6 ≤ L) (h : LI z c s) (kk : ∀ s, LI z (c + 1) s → Rn (k18 z (z + 242) (nI p + 6) s) Q) : Rn (f_L_law_649 N L xs k18 z (z + 242) (nI p) s) Q := by
  obtain ⟨ow, R, K, u, y, c', hc, hC, hI, hR, hK⟩ := h
  have hc1 : c' ≤ c + 1 := by omega
  unfold f_L_law_649
  refine rn_eq (sld_ok hL hp 1 rfl (by decide)) ?_
  refine rn_eq (sld_ok hL hp 2 rfl (by decide)) ?_
  refine rn_eq (sld_ok hL hp 3 rfl (by decide)) ?_
  refine rn_bind (k_reading (by omega) hC hR.1 hK.1) (fun r hr => ?_)
  obtain ⟨ow1, y1, hC1, hI1⟩ := li_k hI hr
  unfold f_L_law_668
  refine rn_eq (sld_ok hL hp 1 rfl (by decide)) ?_
  refine rn_eq (sld_ok hL hp 2 rfl (by decide)) ?_
  refine rn_eq (sld_ok hL hp 3 rfl (by decide)) ?_
  refine rn_bind (m_reading (by omega) hC1.1 hI1 hR.1) (fun q hq => ?_)
  unfold f_L_law_1469
  exact kk _ (li_m hC1 hq (wk_reading hR) hR hK hc1)
theorem arm_12 (hN : 2 ^ 40 ≤ N) (hL : L ≤ 3072) (hp : p + 6 ≤ L) (h : LI z c s) (kk : ∀ s, LI z (c + 1) s → Rn (k18 z (z + 242) (nI p + 6) s) Q) : Rn (f_L_law_692 N L xs k18 z (z + 242) (nI p) s) Q := by
  obtain ⟨ow, R, K, u, y, c', hc, hC, hI, hR, hK⟩ := h
  have hc1 : c' ≤ c + 1 := by omega
  unfold f_L_law_692
  refine rn_eq (sld_ok hL hp 1 rfl (by decide)) ?_
  refine rn_eq (sld_ok hL hp 2 rfl (by decide)) ?_
  refine rn_eq (sld_ok hL hp 3 rfl (by decide)) ?_
  refine rn_bind (k_none (by omega) hC hR.1 hK.1) (fun r hr => ?_)
  obtain ⟨ow1, y1, hC1, hI1⟩ := li_k hI hr
  unfold f_L_law_711
  refine rn_eq (sld_ok hL hp 1 rfl (by decide)) ?_
  refine rn_eq (sld_ok hL hp 2 rfl (by decide)) ?_
  refine rn_eq (sld_ok hL hp 3 rfl (by decide)) ?_
  refine rn_bind (m_none (by omega) hC1.1 hI1 hR.1) (fun q hq => ?_)
  unfold f_L_law_1469
  exact kk _ (li_m hC1 hq (wk_none2 hR) hR hK hc1)
theorem arm_13 (hN : 2 ^ 40 ≤ N) (hL : L ≤ 3072) (hp : p + 6 ≤ L) (h : LI z c s) (kk : ∀ s, LI z (c + 1) s → Rn (k18 z (z + 242) (nI p + 6) s) Q) : Rn (f_L_law_735 N L xs k18 z (z + 242) (nI p) s) Q := by
  obtain ⟨ow, R, K, u, y, c', hc, hC, hI, hR, hK⟩ := h
  have hc1 : c' ≤ c + 1 := by omega
  unfold f_L_law_735
  refine rn_eq (sld_ok hL hp 1 rfl (by decide)) ?_
  refine rn_eq (sld_ok hL hp 2 rfl (by decide)) ?_
  refine rn_bind (k_read2 hC hR.1) (fun r hr => ?_)
  obtain ⟨ow1, y1, hC1, hI1⟩ := li_k hI hr
  refine rn_eq (sld_ok hL hp 1 rfl (by decide)) ?_
  refine rn_eq (sld_ok hL hp 2 rfl (by decide)) ?_
  refine rn_bind (m_read2 hC1.1 hI1 hR.1) (fun q hq => ?_)
  unfold f_L_law_1469
  exact kk _ (li_m (s1 := (s.1, r.2)) hC1 hq wk_read hR hK hc1)
theorem arm_14 (hN : 2 ^ 40 ≤ N) (hL : L ≤ 3072) (hp : p + 6 ≤ L) (h : LI z c s) (kk : ∀ s, LI z (c + 1) s → Rn (k18 z (z + 242) (nI p + 6) s) Q) : Rn (f_L_law_768 N L xs k18 z (z + 242) (nI p) s) Q := by
  obtain ⟨ow, R, K, u, y, c', hc, hC, hI, hR, hK⟩ := h
  have hc1 : c' ≤ c + 1 := by omega
  unfold f_L_law_768
  refine rn_eq (sld_ok hL hp 1 rfl (by decide)) ?_
  refine rn_eq (sld_ok hL hp 2 rfl (by decide)) ?_
  refine rn_eq (sld_ok hL hp 3 rfl (by decide)) ?_
  refine rn_eq (sld_ok hL hp 4 rfl (by decide)) ?_
  refine rn_eq (sld_ok hL hp 5 rfl (by decide)) ?_
  refine rn_bind (k_copy (by omega) hC hR.1 hK.1) (fun r hr => ?_)
  obtain ⟨ow1, y1, hC1, hI1⟩ := li_k hI hr
  unfold f_L_law_797
  refine rn_eq (sld_ok hL hp 1 rfl (by decide)) ?_
  refine rn_eq (sld_ok hL hp 2 rfl (by decide)) ?_
  refine rn_eq (sld_ok hL hp 3 rfl (by decide)) ?_
  refine rn_eq (sld_ok hL hp 4 rfl (by decide)) ?_
  refine rn_eq (sld_ok hL hp 5 rfl (by decide)) ?_
  refine rn_bind (m_copy (by omega) hC1.1 hI1 hR.1) (fun q hq => ?_)
  unfold f_L_law_1469
  exact kk _ (li_m hC1 hq (wk_copy hR) hR hK hc1)
theorem arm_15 (hN : 2 ^ 40 ≤ N) (hL : L ≤ 3072) (hp : p + 6 ≤ L) (h : LI z c s) (kk : ∀ s, LI z (c + 1) s → Rn (k18 z (z + 242) (nI p + 6) s) Q) : Rn (f_L_law_831 N L xs k18 z (z + 242) (nI p) s) Q := by
  obtain ⟨ow, R, K, u, y, c', hc, hC, hI, hR, hK⟩ := h
  have hc1 : c' ≤ c + 1 := by omega
  unfold f_L_law_831
  refine rn_eq (sld_ok hL hp 1 rfl (by decide)) ?_
  refine rn_eq (sld_ok hL hp 2 rfl (by decide)) ?_
  refine rn_eq (sld_ok hL hp 3 rfl (by decide)) ?_
  refine rn_bind (k_copies (by omega) hC hR.1 hK.1) (fun r hr => ?_)
  obtain ⟨ow1, y1, hC1, hI1⟩ := li_k hI hr
  unfold f_L_law_850
  refine rn_eq (sld_ok hL hp 1 rfl (by decide)) ?_
  refine rn_eq (sld_ok hL hp 2 rfl (by decide)) ?_
  refine rn_eq (sld_ok hL hp 3 rfl (by decide)) ?_
  refine rn_bind (m_copies (by omega) hC1.1 hI1 hR.1) (fun q hq => ?_)
  unfold f_L_law_1469
  exact kk _ (li_m hC1 hq (wk_copies hR) hR hK hc1)
theorem arm_16 (hN : 2 ^ 40 ≤ N) (hL : L ≤ 3072) (hp : p + 6 ≤ L) (h : LI z c s) (kk : ∀ s, LI z (c + 1) s → Rn (k18 z (z + 242) (nI p + 6) s) Q) : Rn (f_L_law_874 N L xs k18 z (z + 242) (nI p) s) Q := by
  obtain ⟨ow, R, K, u, y, c', hc, hC, hI, hR, hK⟩ := h
  have hc1 : c' ≤ c + 1 := by omega
  unfold f_L_law_874
  refine rn_eq (sld_ok hL hp 1 rfl (by decide)) ?_
  refine rn_bind (k_snow (by omega) hC hR.1 hK.1) (fun r hr => ?_)
  obtain ⟨ow1, y1, hC1, hI1⟩ := li_k hI hr
  unfold f_L_law_883
  refine rn_eq (sld_ok hL hp 1 rfl (by decide)) ?_
  refine rn_bind (m_snow (by omega) hC1.1 hI1 hR.1) (fun q hq => ?_)
  unfold f_L_law_1469
  exact kk _ (li_m hC1 hq (wk_snow hR) hR hK hc1)
theorem arm_17 (hN : 2 ^ 40 ≤ N) (hL : L ≤ 3072) (hp : p + 6 ≤ L) (h : LI z c s) (kk : ∀ s, LI z (c + 1) s → Rn (k18 z (z + 242) (nI p + 6) s) Q) : Rn (f_L_law_897 N L xs k18 z (z + 242) (nI p) s) Q := by
  obtain ⟨ow, R, K, u, y, c', hc, hC, hI, hR, hK⟩ := h
  have hc1 : c' ≤ c + 1 := by omega
  unfold f_L_law_897
  refine rn_eq (sld_ok hL hp 1 rfl (by decide)) ?_
  refine rn_eq (sld_ok hL hp 2 rfl (by decide)) ?_
  refine rn_bind (k_melt (by omega) hC hR.1 hK.1) (fun r hr => ?_)
  obtain ⟨ow1, y1, hC1, hI1⟩ := li_k hI hr
  unfold f_L_law_911
  refine rn_eq (sld_ok hL hp 1 rfl (by decide)) ?_
  refine rn_eq (sld_ok hL hp 2 rfl (by decide)) ?_
  refine rn_bind (m_melt (by omega) hC1.1 hI1 hR.1) (fun q hq => ?_)
  unfold f_L_law_1469
  exact kk _ (li_m hC1 hq (wk_melt hR) hR hK hc1)
theorem arm_18 (hN : 2 ^ 40 ≤ N) (hL : L ≤ 3072) (hp : p + 6 ≤ L) (h : LI z c s) (kk : ∀ s, LI z (c + 1) s → Rn (k18 z (z + 242) (nI p + 6) s) Q) : Rn (f_L_law_930 N L xs k18 z (z + 242) (nI p) s) Q := by
  obtain ⟨ow, R, K, u, y, c', hc, hC, hI, hR, hK⟩ := h
  have hc1 : c' ≤ c + 1 := by omega
  unfold f_L_law_930
  refine rn_eq (sld_ok hL hp 1 rfl (by decide)) ?_
  refine rn_eq (sld_ok hL hp 2 rfl (by decide)) ?_
  refine rn_bind (k_plough (by omega) hC hR.1 hK.1) (fun r hr => ?_)
  obtain ⟨ow1, y1, hC1, hI1⟩ := li_k hI hr
  unfold f_L_law_944
  refine rn_eq (sld_ok hL hp 1 rfl (by decide)) ?_
  refine rn_eq (sld_ok hL hp 2 rfl (by decide)) ?_
  refine rn_bind (m_plough (by omega) hC1.1 hI1 hR.1) (fun q hq => ?_)
  unfold f_L_law_1469
  exact kk _ (li_m hC1 hq (wk_plough hR) hR hK (by omega))
theorem arm_19 (hN : 2 ^ 40 ≤ N) (hL : L ≤ 3072) (hp : p + 6 ≤ L) (h : LI z c s) (kk : ∀ s, LI z (c + 1) s → Rn (k18 z (z + 242) (nI p + 6) s) Q) : Rn (f_L_law_963 N L xs k18 z (z + 242) (nI p) s) Q := by
  obtain ⟨ow, R, K, u, y, c', hc, hC, hI, hR, hK⟩ := h
  have hc1 : c' ≤ c + 1 := by omega
  unfold f_L_law_963
  refine rn_eq (sld_ok hL hp 1 rfl (by decide)) ?_
  refine rn_eq (sld_ok hL hp 2 rfl (by decide)) ?_
  refine rn_eq (sld_ok hL hp 3 rfl (by decide)) ?_
  refine rn_bind (k_pair (by omega) hC hR.1 hK.1) (fun r hr => ?_)
  obtain ⟨ow1, y1, hC1, hI1⟩ := li_k hI hr
  unfold f_L_law_982
  refine rn_eq (sld_ok hL hp 1 rfl (by decide)) ?_
  refine rn_eq (sld_ok hL hp 2 rfl (by decide)) ?_
  refine rn_eq (sld_ok hL hp 3 rfl (by decide)) ?_
  refine rn_bind (m_pair (by omega) hC1.1 hI1 hR.1) (fun q hq => ?_)
  unfold f_L_law_1469
  exact kk _ (li_m hC1 hq (wk_pair hR) hR hK (by omega))
theorem arm_20 (hN : 2 ^ 40 ≤ N) (hL : L ≤ 3072) (hp : p + 6 ≤ L) (h : LI z c s) (kk : ∀ s, LI z (c + 1) s → Rn (k18 z (z + 242) (nI p + 6) s) Q) : Rn (f_L_law_1006 N L xs k18 z (z + 242) (nI p) s) Q := by
  obtain ⟨ow, R, K, u, y, c', hc, hC, hI, hR, hK⟩ := h
  have hc1 : c' ≤ c + 1 := by omega
  unfold f_L_law_1006
  refine rn_eq (sld_ok hL hp 1 rfl (by decide)) ?_
  refine rn_bind (k_out (by omega) hC hR.1 hK.1) (fun r hr => ?_)
  obtain ⟨ow1, y1, hC1, hI1⟩ := li_k hI hr
  unfold f_L_law_1015
  refine rn_eq (sld_ok hL hp 1 rfl (by decide)) ?_
  refine rn_bind (m_out (by omega) hC1.1 hI1 hR.1) (fun q hq => ?_)
  unfold f_L_law_1469
  exact kk _ (li_m hC1 hq (wk_out hR) hR hK hc1)
theorem arm_21 (hN : 2 ^ 40 ≤ N) (hL : L ≤ 3072) (hp : p + 6 ≤ L) (h : LI z c s) (kk : ∀ s, LI z (c + 1) s → Rn (k18 z (z + 242) (nI p + 6) s) Q) : Rn (f_L_law_1029 N L xs k18 z (z + 242) (nI p) s) Q := by
  obtain ⟨ow, R, K, u, y, c', hc, hC, hI, hR, hK⟩ := h
  have hc1 : c' ≤ c + 1 := by omega
  unfold f_L_law_1029
  refine rn_eq (sld_ok hL hp 1 rfl (by decide)) ?_
  refine rn_eq (sld_ok hL hp 2 rfl (by decide)) ?_
  refine rn_eq (sld_ok hL hp 3 rfl (by decide)) ?_
  refine rn_bind (k_asks2 hC hR.1) (fun r hr => ?_)
  obtain ⟨ow1, y1, hC1, hI1⟩ := li_k hI hr
  refine rn_eq (sld_ok hL hp 1 rfl (by decide)) ?_
  refine rn_eq (sld_ok hL hp 2 rfl (by decide)) ?_
  refine rn_eq (sld_ok hL hp 3 rfl (by decide)) ?_
  refine rn_bind (m_asks2 hC1.1 hI1 hR.1) (fun q hq => ?_)
  unfold f_L_law_1469
  exact kk _ (li_m (s1 := (s.1, r.2)) hC1 hq wk_asks hR hK hc1)
theorem arm_22 (hN : 2 ^ 40 ≤ N) (hL : L ≤ 3072) (hp : p + 6 ≤ L) (h : LI z c s) (kk : ∀ s, LI z (c + 1) s → Rn (k18 z (z + 242) (nI p + 6) s) Q) : Rn (f_L_law_1072 N L xs k18 z (z + 242) (nI p) s) Q := by
  obtain ⟨ow, R, K, u, y, c', hc, hC, hI, hR, hK⟩ := h
  have hc1 : c' ≤ c + 1 := by omega
  unfold f_L_law_1072
  refine rn_eq (sld_ok hL hp 1 rfl (by decide)) ?_
  refine rn_eq (sld_ok hL hp 2 rfl (by decide)) ?_
  refine rn_bind (k_salt (by omega) hC hR.1 hK.1) (fun r hr => ?_)
  obtain ⟨ow1, y1, hC1, hI1⟩ := li_k hI hr
  unfold f_L_law_1086
  refine rn_eq (sld_ok hL hp 1 rfl (by decide)) ?_
  refine rn_eq (sld_ok hL hp 2 rfl (by decide)) ?_
  refine rn_bind (m_salt (by omega) hC1.1 hI1 hR.1) (fun q hq => ?_)
  unfold f_L_law_1469
  exact kk _ (li_m hC1 hq (wk_salt hR) hR hK hc1)
theorem arm_23 (hN : 2 ^ 40 ≤ N) (hL : L ≤ 3072) (hp : p + 6 ≤ L) (h : LI z c s) (kk : ∀ s, LI z (c + 1) s → Rn (k18 z (z + 242) (nI p + 6) s) Q) : Rn (f_L_law_1105 N L xs k18 z (z + 242) (nI p) s) Q := by
  obtain ⟨ow, R, K, u, y, c', hc, hC, hI, hR, hK⟩ := h
  have hc1 : c' ≤ c + 1 := by omega
  unfold f_L_law_1105
  refine rn_eq (sld_ok hL hp 1 rfl (by decide)) ?_
  refine rn_bind (k_odd2 (by omega) hC hR.1) (fun r hr => ?_)
  obtain ⟨ow1, y1, hC1, hI1⟩ := li_k hI hr
  refine rn_eq (sld_ok hL hp 1 rfl (by decide)) ?_
  refine rn_bind (m_odd2 (by omega) hC1.1 hI1 hR.1) (fun q hq => ?_)
  unfold f_L_law_1469
  exact kk _ (li_m (s1 := (s.1, r.2)) hC1 hq wk_odd hR hK hc1)
theorem arm_24 (hN : 2 ^ 40 ≤ N) (hL : L ≤ 3072) (hp : p + 6 ≤ L) (h : LI z c s) (kk : ∀ s, LI z (c + 1) s → Rn (k18 z (z + 242) (nI p + 6) s) Q) : Rn (f_L_law_1128 N L xs k18 z (z + 242) (nI p) s) Q := by
  obtain ⟨ow, R, K, u, y, c', hc, hC, hI, hR, hK⟩ := h
  have hc1 : c' ≤ c + 1 := by omega
  unfold f_L_law_1128
  refine rn_eq (sld_ok hL hp 1 rfl (by decide)) ?_
  refine rn_bind (k_least2 (by omega) hC hR.1) (fun r hr => ?_)
  obtain ⟨ow1, y1, hC1, hI1⟩ := li_k hI hr
  unfold f_L_law_1137
  refine rn_eq (sld_ok hL hp 1 rfl (by decide)) ?_
  refine rn_bind (m_least2 (by omega) hC1.1 hI1 hR.1) (fun q hq => ?_)
  unfold f_L_law_1469
  exact kk _ (li_m hC1 hq wk_least hR hK hc1)
theorem arm_25 (hN : 2 ^ 40 ≤ N) (hL : L ≤ 3072) (hp : p + 6 ≤ L) (h : LI z c s) (kk : ∀ s, LI z (c + 1) s → Rn (k18 z (z + 242) (nI p + 6) s) Q) : Rn (f_L_law_1151 N L xs k18 z (z + 242) (nI p) s) Q := by
  obtain ⟨ow, R, K, u, y, c', hc, hC, hI, hR, hK⟩ := h
  have hc1 : c' ≤ c + 1 := by omega
  unfold f_L_law_1151
  obtain ⟨q0, -, hq0⟩ := m_round (N := N) hN hC.1 hI hR.1
  rcases hq0 with ⟨hne, -⟩ | ⟨h0, R', hrnd, -⟩
  · have hk := k_round (N := N) (R' := R) (by omega) hC hR.1 hK.1 (fun e => absurd e hne)
    rw [if_neg hne] at hk
    refine rn_bind hk (fun r hr => ?_)
    obtain ⟨ow1, y1, hC1, hI1⟩ := li_k hI hr
    unfold f_L_law_1155
    refine rn_bind (m_round hN hC1.1 hI1 hR.1) (fun q hq => ?_)
    rcases hq with ⟨-, hq⟩ | ⟨h0, -⟩
    · unfold f_L_law_1469
      exact kk _ (li_m hC1 hq wk_none hR hK hc1)
    · exact absurd h0 hne
  · have hk : ∀ R', RND R (rdR R).2 R' → Rn (f_X11_round N z s) (KO z R K u c' (nI (rdR R).2.length, some R') s) := fun R' hrnd => by
      have hk := k_round (N := N) (R' := R') (by omega) hC hR.1 hK.1 (fun _ => hrnd)
      rw [if_pos h0] at hk
      exact hk
    obtain ⟨r, er, hr0⟩ := hk R' hrnd
    obtain ⟨ow1, y1, hC1, hI1⟩ := li_k hI hr0
    refine rn_eq er ?_
    unfold f_L_law_1155
    refine rn_bind (m_round hN hC1.1 hI1 hR.1) (fun q hq => ?_)
    rcases hq with ⟨hne, -⟩ | ⟨-, R2, hrnd2, hq⟩
    · exact absurd h0 hne
    · obtain ⟨r2, er2, hr⟩ := hk R2 hrnd2
      have e2 : r2 = r := Option.some.inj (er2.symm.trans er)
      rw [e2] at hr
      obtain ⟨ow2, y2, hC2, hI2⟩ := li_k hI hr
      unfold f_L_law_1469
      exact kk _ (li_m hC2 hq (fun R1 e => by rw [← Option.some.inj e]; exact wk_round hR (rdR_vl hR.1) (rdR_len h0) hrnd2) hR hK hc1)
theorem arm_26 (hN : 2 ^ 40 ≤ N) (hL : L ≤ 3072) (hp : p + 6 ≤ L) (h : LI z c s) (kk : ∀ s, LI z (c + 1) s → Rn (k18 z (z + 242) (nI p + 6) s) Q) : Rn (f_L_law_1164 N L xs k18 z (z + 242) (nI p) s) Q := by
  obtain ⟨ow, R, K, u, y, c', hc, hC, hI, hR, hK⟩ := h
  have hc1 : c' ≤ c + 1 := by omega
  unfold f_L_law_1164
  refine rn_eq (sld_ok hL hp 1 rfl (by decide)) ?_
  refine rn_eq (sld_ok hL hp 2 rfl (by decide)) ?_
  refine rn_bind (k_at2 hC hR.1) (fun r hr => ?_)
  obtain ⟨ow1, y1, hC1, hI1⟩ := li_k hI hr
  refine rn_eq (sld_ok hL hp 1 rfl (by decide)) ?_
  refine rn_eq (sld_ok hL hp 2 rfl (by decide)) ?_
  refine rn_bind (m_at2 hC1.1 hI1 hR.1) (fun q hq => ?_)
  unfold f_L_law_1469
  exact kk _ (li_m (s1 := (s.1, r.2)) hC1 hq wk_at hR hK hc1)
theorem arm_27 (hN : 2 ^ 40 ≤ N) (hL : L ≤ 3072) (hp : p + 6 ≤ L) (h : LI z c s) (kk : ∀ s, LI z (c + 1) s → Rn (k18 z (z + 242) (nI p + 6) s) Q) : Rn (f_L_law_1197 N L xs k18 z (z + 242) (nI p) s) Q := by
  obtain ⟨ow, R, K, u, y, c', hc, hC, hI, hR, hK⟩ := h
  have hc1 : c' ≤ c + 1 := by omega
  unfold f_L_law_1197
  refine rn_eq (sld_ok hL hp 1 rfl (by decide)) ?_
  refine rn_bind (k_length hC) (fun r hr => ?_)
  obtain ⟨ow1, y1, hC1, hI1⟩ := li_k hI hr
  refine rn_eq (sld_ok hL hp 1 rfl (by decide)) ?_
  refine rn_bind (m_length (by omega) hC1.1 hI1 hR.1) (fun q hq => ?_)
  unfold f_L_law_1469
  exact kk _ (li_m (s1 := (s.1, r.2)) (o := (q.1, none)) hC1 hq wk_none hR hK hc1)
theorem arm_28 (hN : 2 ^ 40 ≤ N) (hL : L ≤ 3072) (hp : p + 6 ≤ L) (h : LI z c s) (kk : ∀ s, LI z (c + 1) s → Rn (k18 z (z + 242) (nI p + 6) s) Q) : Rn (f_L_law_1220 N L xs k18 z (z + 242) (nI p) s) Q := by
  obtain ⟨ow, R, K, u, y, c', hc, hC, hI, hR, hK⟩ := h
  have hc1 : c' ≤ c + 1 := by omega
  unfold f_L_law_1220
  refine rn_eq (sld_ok hL hp 1 rfl (by decide)) ?_
  refine rn_bind (k_partner hC hR.1) (fun r hr => ?_)
  obtain ⟨ow1, y1, hC1, hI1⟩ := li_k hI hr
  refine rn_eq (sld_ok hL hp 1 rfl (by decide)) ?_
  refine rn_bind (m_partner hC1.1 hI1 hR.1) (fun q hq => ?_)
  unfold f_L_law_1469
  exact kk _ (li_m (s1 := (s.1, r.2)) (o := (q.1, none)) hC1 hq wk_none hR hK hc1)
theorem arm_29 (hN : 2 ^ 40 ≤ N) (hL : L ≤ 3072) (hp : p + 6 ≤ L) (h : LI z c s) (kk : ∀ s, LI z (c + 1) s → Rn (k18 z (z + 242) (nI p + 6) s) Q) : Rn (f_L_law_1243 N L xs k18 z (z + 242) (nI p) s) Q := by
  obtain ⟨ow, R, K, u, y, c', hc, hC, hI, hR, hK⟩ := h
  have hc1 : c' ≤ c + 1 := by omega
  unfold f_L_law_1243
  refine rn_bind (k_split (by omega) hC hR.1 hR.2 hK.1) (fun r hr => ?_)
  obtain ⟨ow1, y1, hC1, hI1⟩ := li_k hI hr
  unfold f_L_law_1247
  refine rn_bind (m_split (by omega) hC1.1 hI1 hR.1) (fun q hq => ?_)
  unfold f_L_law_1469
  exact kk _ (li_m hC1 hq (wk_split hR) hR hK hc1)
theorem arm_30 (hN : 2 ^ 40 ≤ N) (hL : L ≤ 3072) (hp : p + 6 ≤ L) (h : LI z c s) (kk : ∀ s, LI z (c + 1) s → Rn (k18 z (z + 242) (nI p + 6) s) Q) : Rn (f_L_law_1256 N L xs k18 z (z + 242) (nI p) s) Q := by
  obtain ⟨ow, R, K, u, y, c', hc, hC, hI, hR, hK⟩ := h
  have hc1 : c' ≤ c + 1 := by omega
  unfold f_L_law_1256
  refine rn_eq (sld_ok hL hp 1 rfl (by decide)) ?_
  refine rn_eq (sld_ok hL hp 2 rfl (by decide)) ?_
  refine rn_bind (k_part2 hC hR.1) (fun r hr => ?_)
  obtain ⟨ow1, y1, hC1, hI1⟩ := li_k hI hr
  refine rn_eq (sld_ok hL hp 1 rfl (by decide)) ?_
  refine rn_eq (sld_ok hL hp 2 rfl (by decide)) ?_
  refine rn_bind (m_part2 hC1.1 hI1 hR.1) (fun q hq => ?_)
  refine rn_t (hr.1.trans hq.1.symm) ?_
  unfold f_L_law_1469
  exact kk _ (li_m (s1 := (s.1, r.2)) hC1 hq wk_part hR hK hc1)
theorem arm_31 (hN : 2 ^ 40 ≤ N) (hL : L ≤ 3072) (hp : p + 6 ≤ L) (h : LI z c s) (kk : ∀ s, LI z (c + 1) s → Rn (k18 z (z + 242) (nI p + 6) s) Q) : Rn (f_L_law_1289 N L xs k18 z (z + 242) (nI p) s) Q := by
  obtain ⟨ow, R, K, u, y, c', hc, hC, hI, hR, hK⟩ := h
  have hc1 : c' ≤ c + 1 := by omega
  unfold f_L_law_1289
  refine rn_eq (sld_ok hL hp 1 rfl (by decide)) ?_
  refine rn_eq (sld_ok hL hp 2 rfl (by decide)) ?_
  refine rn_bind (k_go (by omega) hC hR.1 hK.1) (fun r hr => ?_)
  obtain ⟨ow1, y1, hC1, hI1⟩ := li_k hI hr
  unfold f_L_law_1303
  refine rn_eq (sld_ok hL hp 1 rfl (by decide)) ?_
  refine rn_eq (sld_ok hL hp 2 rfl (by decide)) ?_
  refine rn_bind (m_go (by omega) hC1.1 hI1 hR.1) (fun q hq => ?_)
  unfold f_L_law_1469
  exact kk _ (li_m hC1 hq (wk_go hR) hR hK hc1)
theorem arm_32 (hN : 2 ^ 40 ≤ N) (hL : L ≤ 3072) (hp : p + 6 ≤ L) (h : LI z c s) (kk : ∀ s, LI z (c + 1) s → Rn (k18 z (z + 242) (nI p + 6) s) Q) : Rn (f_L_law_1322 N L xs k18 z (z + 242) (nI p) s) Q := by
  obtain ⟨ow, R, K, u, y, c', hc, hC, hI, hR, hK⟩ := h
  have hc1 : c' ≤ c + 1 := by omega
  unfold f_L_law_1322
  refine rn_bind (k_looks hC.1) (fun r _ => ?_)
  refine rn_bind (m_looks hC.1) (fun q _ => ?_)
  unfold f_L_law_1469
  exact kk s ⟨ow, R, K, u, y, c', hc1, hC, hI, hR, hK⟩
theorem arm_33 (hN : 2 ^ 40 ≤ N) (hL : L ≤ 3072) (hp : p + 6 ≤ L) (h : LI z c s) (kk : ∀ s, LI z (c + 1) s → Rn (k18 z (z + 242) (nI p + 6) s) Q) : Rn (f_L_law_1335 N L xs k18 z (z + 242) (nI p) s) Q := by
  obtain ⟨ow, R, K, u, y, c', hc, hC, hI, hR, hK⟩ := h
  have hc1 : c' ≤ c + 1 := by omega
  unfold f_L_law_1335
  refine rn_bind (k_text (by omega) hC hR.1) (fun r hr => ?_)
  obtain ⟨ow1, y1, hC1, hI1⟩ := li_k hI hr
  unfold f_L_law_1339
  refine rn_bind (m_text (by omega) hC1.1 hI1 hR.1) (fun q hq => ?_)
  unfold f_L_law_1469
  exact kk _ (li_m (o := (q.1, none)) hC1 hq wk_none hR hK hc1)
theorem arm_34 (hN : 2 ^ 40 ≤ N) (hL : L ≤ 3072) (hp : p + 6 ≤ L) (h : LI z c s) (kk : ∀ s, LI z (c + 1) s → Rn (k18 z (z + 242) (nI p + 6) s) Q) : Rn (f_L_law_1348 N L xs k18 z (z + 242) (nI p) s) Q := by
  obtain ⟨ow, R, K, u, y, c', hc, hC, hI, hR, hK⟩ := h
  have hc1 : c' ≤ c + 1 := by omega
  unfold f_L_law_1348
  refine rn_eq (sld_ok hL hp 1 rfl (by decide)) ?_
  refine rn_bind (k_sign hC) (fun r _ => ?_)
  refine rn_eq (sld_ok hL hp 1 rfl (by decide)) ?_
  refine rn_bind (m_sign hC.1 hI) (fun q _ => ?_)
  unfold f_L_law_1469
  exact kk s ⟨ow, R, K, u, y, c', hc1, hC, hI, hR, hK⟩
theorem arm_35 (hN : 2 ^ 40 ≤ N) (hL : L ≤ 3072) (hp : p + 6 ≤ L) (h : LI z c s) (kk : ∀ s, LI z (c + 1) s → Rn (k18 z (z + 242) (nI p + 6) s) Q) : Rn (f_L_law_1371 N L xs k18 z (z + 242) (nI p) s) Q := by
  obtain ⟨ow, R, K, u, y, c', hc, hC, hI, hR, hK⟩ := h
  have hc1 : c' ≤ c + 1 := by omega
  unfold f_L_law_1371
  refine rn_bind (k_digest2 (by omega) hC hR.1) (fun r hr => ?_)
  obtain ⟨ow1, y1, hC1, hI1⟩ := li_k hI hr
  refine rn_bind (m_digest2 (by omega) hC1.1 hI1 hR.1) (fun q hq => ?_)
  unfold f_L_law_1469
  exact kk _ (li_m (s1 := (s.1, r.2)) hC1 hq wk_digest hR hK hc1)
theorem arm_36 (hN : 2 ^ 40 ≤ N) (hL : L ≤ 3072) (hp : p + 6 ≤ L) (h : LI z c s) (kk : ∀ s, LI z (c + 1) s → Rn (k18 z (z + 242) (nI p + 6) s) Q) : Rn (f_L_law_1384 N L xs k18 z (z + 242) (nI p) s) Q := by
  obtain ⟨ow, R, K, u, y, c', hc, hC, hI, hR, hK⟩ := h
  have hc1 : c' ≤ c + 1 := by omega
  unfold f_L_law_1384
  refine rn_bind (k_undo (by omega) hC hR.1 hK.1) (fun r hr => ?_)
  obtain ⟨a1, f, ow1, y1, hC1⟩ := hr
  have hI1 := ri_rfr hI f
  unfold f_L_law_1388
  refine rn_bind (m_undo (by omega) hC1.1 hI1) (fun q hq => ?_)
  obtain ⟨a2, f2, hI2⟩ := hq
  unfold f_L_law_1469
  refine kk _ ⟨ow1, _, _, _, y1, c', hc1, ci_mfr hC1 f2, hI2, ?_, hK⟩
  cases u
  · exact hR
  · exact hK
theorem arm_37 (hN : 2 ^ 40 ≤ N) (hL : L ≤ 3072) (hp : p + 6 ≤ L) (h : LI z c s) (kk : ∀ s, LI z (c + 1) s → Rn (k18 z (z + 242) (nI p + 6) s) Q) : Rn (f_L_law_1397 N L xs k18 z (z + 242) (nI p) s) Q := by
  obtain ⟨ow, R, K, u, y, c', hc, hC, hI, hR, hK⟩ := h
  have hc1 : c' ≤ c + 1 := by omega
  unfold f_L_law_1397
  refine rn_eq (sld_ok hL hp 1 rfl (by decide)) ?_
  refine rn_bind (k_findings hC.1) (fun r _ => ?_)
  refine rn_eq (sld_ok hL hp 1 rfl (by decide)) ?_
  refine rn_bind (m_findings hC.1) (fun q _ => ?_)
  unfold f_L_law_1469
  exact kk s ⟨ow, R, K, u, y, c', hc1, hC, hI, hR, hK⟩
theorem arm_38 (hN : 2 ^ 40 ≤ N) (hL : L ≤ 3072) (hp : p + 6 ≤ L) (h : LI z c s) (kk : ∀ s, LI z (c + 1) s → Rn (k18 z (z + 242) (nI p + 6) s) Q) : Rn (f_L_law_1420 N L xs k18 z (z + 242) (nI p) s) Q := by
  obtain ⟨ow, R, K, u, y, c', hc, hC, hI, hR, hK⟩ := h
  have hc1 : c' ≤ c + 1 := by omega
  unfold f_L_law_1420
  refine rn_bind (k_status hC.1) (fun r _ => ?_)
  refine rn_bind (m_status hC.1) (fun q _ => ?_)
  unfold f_L_law_1469
  exact kk s ⟨ow, R, K, u, y, c', hc1, hC, hI, hR, hK⟩
theorem arm_39 (hN : 2 ^ 40 ≤ N) (hL : L ≤ 3072) (hp : p + 6 ≤ L) (h : LI z c s) (kk : ∀ s, LI z (c + 1) s → Rn (k18 z (z + 242) (nI p + 6) s) Q) : Rn (f_L_law_1433 N L xs k18 z (z + 242) (nI p) s) Q := by
  obtain ⟨ow, R, K, u, y, c', hc, hC, hI, hR, hK⟩ := h
  have hc1 : c' ≤ c + 1 := by omega
  unfold f_L_law_1433
  refine rn_bind (k_trace hC.1) (fun r _ => ?_)
  refine rn_bind (m_trace hC.1) (fun q _ => ?_)
  unfold f_L_law_1469
  exact kk s ⟨ow, R, K, u, y, c', hc1, hC, hI, hR, hK⟩
theorem arm_40 (hN : 2 ^ 40 ≤ N) (hL : L ≤ 3072) (hp : p + 6 ≤ L) (h : LI z c s) (kk : ∀ s, LI z (c + 1) s → Rn (k18 z (z + 242) (nI p + 6) s) Q) : Rn (f_L_law_1446 N L xs k18 z (z + 242) (nI p) s) Q := by
  obtain ⟨ow, R, K, u, y, c', hc, hC, hI, hR, hK⟩ := h
  have hc1 : c' ≤ c + 1 := by omega
  unfold f_L_law_1446
  refine rn_eq (sld_ok hL hp 1 rfl (by decide)) ?_
  refine rn_eq (k_count2 hC hR.1) ?_
  refine rn_eq (sld_ok hL hp 1 rfl (by decide)) ?_
  refine rn_eq (m_count2 hC.1 hI) ?_
  unfold f_L_law_1469
  exact kk s ⟨ow, R, K, u, y, c', hc1, hC, hI, hR, hK⟩
end ARMS
