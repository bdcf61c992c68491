/-! books with other PLOUGHS, other DRIVES; gauge() -/
section GN
variable {s s' : AS} {sh : Sh} {d d' : Dt} {z : Nat} {ow ow' : Nat → Nat} {R R' K : Nat → Int32} {u : Bool} {y : YL} {c N : Nat} {q q' : BL}
theorem vP_cg {c i : Nat} (hi : i < 12) (e : ∀ j, 9426 ≤ j → j < 9582 → R' j = R j) : vP R' c i = vP R c i := by
  unfold vP
  simp only [e (9426 + 13 * i + 6) (by omega) (by omega), e (9426 + 13 * i + 7) (by omega) (by omega), e (9426 + 13 * i + 8) (by omega) (by omega), e (9426 + 13 * i + 9) (by omega) (by omega), e (9426 + 13 * i + 10) (by omega) (by omega), e (9426 + 13 * i + 1) (by omega) (by omega), e (9426 + 13 * i + 2) (by omega) (by omega), e (9426 + 13 * i) (by omega) (by omega), e (9426 + 13 * i + 11) (by omega) (by omega), e (9426 + 13 * i + 12) (by omega) (by omega)]
theorem wd_e {i : Nat} (h : WF R) (hi : i < nn R 4) : nn R (9642 + 3 * i) < nn R 1 ∧ R (9642 + 3 * i) = nI (nn R (9642 + 3 * i)) := by
  obtain ⟨t, c, h1, h2, -⟩ := h.2.2.2.2.2 i hi
  have n1 := h.1.2.1.2
  have e : nn R (9642 + 3 * i) = t := by
    unfold nn
    rw [h2, nI_clamp (by omega)]
  rw [e]
  exact ⟨h1, h2⟩
/-- what the DRIVES' columns want -/
def WDn (R : Nat → Int32) : Prop := WN R ∧ WG R ∧ ∀ i, i < nn R 4 → nn R (9642 + 3 * i) < nn R 1
theorem wdn_of (h : WF R) : WDn R := ⟨h.1, h.2.1, fun i hi => (wd_e h hi).1⟩
theorem vD_cg {c i : Nat} (hR : WDn R) (hi : i < nn R 4) (e : ∀ j, 9642 ≤ j → R' j = R j) (ee : ∀ t k, t < nn R 1 → k = 7 ∨ k = 8 → R' (16 + 9 * t + k) = R (16 + 9 * t + k)) : vD R' c i = vD R c i := by
  have w := hR.2.2 i hi
  have en : nn R' (9642 + 3 * i) = nn R (9642 + 3 * i) := by unfold nn; rw [e _ (by omega)]
  unfold vD
  rw [en, e (9642 + 3 * i) (by omega), e (9642 + 3 * i + 1) (by omega), e (9642 + 3 * i + 2) (by omega), ee _ 7 w (Or.inl rfl), ee _ 8 w (Or.inr rfl)]
theorem inC_lt {k : Nat} (hN : WN R) (hG : WG R) (h : inC R k) : k < 4000 := by
  obtain ⟨g, hh, h1, h2, h3⟩ := h
  have := (hG g h1).2
  have := hN.2.2.1.2
  omega
theorem ce_cg {b Lc : Nat} (hN : WN R) (hG : WG R) (h : CE sh d z ow b Lc (inC R) (vC R)) (e2 : nn R' 2 = nn R 2) (e : ∀ j, 1366 ≤ j → j < 9426 → R' j = R j) : CE sh d z ow b Lc (inC R') (vC R') := by
  obtain ⟨a, z1, z2, z3, z4, z5, z6⟩ := h
  have n2 := hN.2.2.1.2
  refine ⟨a, z1, z2, z3, z4, z5, fun k hk => ?_⟩
  have hk2 : inC R k := by
    obtain ⟨g, hh, q1, q2, q3⟩ := hk
    rw [e2] at q1
    have en : nn R' (1366 + 3 * g + 2) = nn R (1366 + 3 * g + 2) := by unfold nn; rw [e _ (by omega) (by omega)]
    rw [en] at q2
    exact ⟨g, hh, q1, q2, q3⟩
  have r := z6 k hk2
  have hlt := inC_lt hN hG hk2
  refine ⟨r.1, r.2.trans ?_⟩
  unfold vC
  rw [e (5426 + k) (by omega) (by omega), e (1426 + k) (by omega) (by omega)]
/-- the books with other PLOUGHS -/
theorem bk_P {b : Nat} {L' : Nat → Nat} (hR : WDn R) (hb : bck b) (hK : KS s.1 z) (hw : OWS ow z) (h : BK s.1 s.2 z ow b R q) (he : ES (IX z ow (b + 17) (b + 18)) s ow s' ow') (ht : TB s'.1 s'.2 z ow' (b + 17) 9 (nn R' 3) (vP R') L') (hL : ∀ c, c < 9 → L' c ≤ 24) (e : ∀ k, k ≠ 3 → k < 9426 ∨ 9582 ≤ k → R' k = R k) : BK s'.1 s'.2 z ow' b R' (q.1, q.2.1, L', q.2.2.2) := by
  obtain ⟨h0, h1, h2, h3, h4, h5, h6, h7⟩ := h
  have hwb := bck_w hb hw
  have hts := bck_t hb
  have hz := hK.2.1
  have n1 := hR.1.2.1.2
  have n2 := hR.1.2.2.1.2
  have en : ∀ k, k ≠ 3 → k < 9426 ∨ 9582 ≤ k → nn R' k = nn R k := fun k a1 a2 => by unfold nn; rw [e k a1 a2]
  have r0 : s'.2.1 (z + b) = s.2.1 (z + b) := ((he.2.2 (z + b) (by omega)).2.2.2.2 (nix hwb.1 hwb.2 (by omega))).1
  refine ⟨?_, ?_, ?_, ht, ?_, ?_, ?_, ⟨h7.1, h7.2.1, hL, h7.2.2.2⟩⟩
  · rw [r0, e 0 (by omega) (by omega)]
    exact h0
  · rw [en 1 (by omega) (by omega)]
    exact tb_congr (tb_ix h1 hK hw hts.1 he (by omega)) (fun c' i' _ hi' => e _ (by omega) (by omega))
  · rw [en 2 (by omega) (by omega)]
    exact tb_congr (tb_ix h2 hK hw hts.2.1 he (by omega)) (fun c' i' _ _ => e _ (by omega) (by omega))
  · rw [en 4 (by omega) (by omega)]
    exact tb_congr (tb_ix h4 hK hw hts.2.2.2 he (by omega)) (fun c' i' _ hi' => vD_cg hR hi' (fun j hj => e j (by omega) (by omega)) (fun t k ht hk => e _ (by omega) (by omega)))
  · exact ce_cg hR.1 hR.2.1 (ce_ix h5 hK hwb.1 hwb.2 he (by omega)) (en 2 (by omega) (by omega)) (fun j j1 j2 => e j (by omega) (by omega))
  · rw [en 2 (by omega) (by omega)]
    exact h6
/-- the books with other DRIVES -/
theorem bk_D {b : Nat} {L' : Nat → Nat} (hR : WDn R) (hb : bck b) (hK : KS s.1 z) (hw : OWS ow z) (h : BK s.1 s.2 z ow b R q) (he : ES (IX z ow (b + 28) (b + 36)) s ow s' ow') (ht : TB s'.1 s'.2 z ow' (b + 28) 4 (nn R' 4) (vD R') L') (hL : ∀ c, c < 4 → L' c ≤ 4000) (e : ∀ k, k < 4 ∨ 9 ≤ k → k < 9582 → R' k = R k) : BK s'.1 s'.2 z ow' b R' (q.1, q.2.1, q.2.2.1, L', q.2.2.2.2) := by
  obtain ⟨h0, h1, h2, h3, h4, h5, h6, h7⟩ := h
  have hwb := bck_w hb hw
  have hts := bck_t hb
  have hz := hK.2.1
  have n1 := hR.1.2.1.2
  have n2 := hR.1.2.2.1.2
  have n3 := hR.1.2.2.2.1.2
  have en : ∀ k, k < 4 ∨ 9 ≤ k → k < 9582 → nn R' k = nn R k := fun k a1 a2 => by unfold nn; rw [e k a1 a2]
  have r0 : s'.2.1 (z + b) = s.2.1 (z + b) := ((he.2.2 (z + b) (by omega)).2.2.2.2 (nix hwb.1 hwb.2 (by omega))).1
  refine ⟨?_, ?_, ?_, ?_, ht, ?_, ?_, ⟨h7.1, h7.2.1, h7.2.2.1, hL, h7.2.2.2.2⟩⟩
  · rw [r0, e 0 (by omega) (by omega)]
    exact h0
  · rw [en 1 (by omega) (by omega)]
    exact tb_congr (tb_ix h1 hK hw hts.1 he (by omega)) (fun c' i' _ hi' => e _ (by omega) (by omega))
  · rw [en 2 (by omega) (by omega)]
    exact tb_congr (tb_ix h2 hK hw hts.2.1 he (by omega)) (fun c' i' _ _ => e _ (by omega) (by omega))
  · rw [en 3 (by omega) (by omega)]
    exact tb_congr (tb_ix h3 hK hw hts.2.2.1 he (by omega)) (fun c' i' _ hi' => vP_cg (by omega) (fun j j1 j2 => e j (by omega) (by omega)))
  · exact ce_cg hR.1 hR.2.1 (ce_ix h5 hK hwb.1 hwb.2 he (by omega)) (en 2 (by omega) (by omega)) (fun j j1 j2 => e j (by omega) (by omega))
  · rw [en 2 (by omega) (by omega)]
    exact h6
def gaR (R : Nat → Int32) (x w : Int32) : Nat → Int32 := va_up (va_up (va_up (va_up R (1366 + 3 * nn R 2) x) (1366 + 3 * nn R 2 + 1) w) (1366 + 3 * nn R 2 + 2) (-1)) 2 (nI (nn R 2 + 1))
theorem gaR_n {x w : Int32} {k : Nat} (h1 : k ≠ 2) (h2 : k < 1366 + 3 * nn R 2 ∨ 1366 + 3 * nn R 2 + 3 ≤ k) : gaR R x w k = R k := by
  unfold gaR
  rw [va_up_n (by omega), va_up_n (by omega), va_up_n (by omega), va_up_n (by omega)]
theorem gaR_nn {x w : Int32} (hN : WN R) : nn (gaR R x w) 2 = nn R 2 + 1 := by
  have n2 := hN.2.2.1.2
  unfold nn gaR
  rw [va_up_s]
  exact nI_clamp (by omega)
def sp_gauge (R : Nat → Int32) (x w : Int32) : Int32 × Option (Nat → Int32) := if x < 0 ∨ nI (nn R 0) ≤ x then (-2, none) else if nn R 2 = 20 then (-3, none) else (nI (nn R 2), some (gaR R x (if w = 0 then 0 else 1)))
theorem m_gauge {x w : Int32} (hNf : 15642 < N) (hK : KS sh z) (h : RI d z R K u) (hR : WF R) : Rn (f_X12_gauge N sh (z + 242) x w d) (RO z R K u (sp_gauge R x w) d) := by
  have hN := hR.1
  have n2 := hN.2.2.1
  unfold f_X12_gauge
  refine rn_t (ks_o hK 242 12 rfl) ?_
  refine rn_eq (ri_isCrossing hK h hN) ?_
  by_cases hb : x < 0 ∨ nI (nn R 0) ≤ x
  · rw [show sp_gauge R x w = _ from if_pos hb]
    refine rn_f (fun q => q (ite01.mpr hb)) ?_
    exact ro_refuses hK h rfl
  rw [show sp_gauge R x w = _ from if_neg hb]
  refine rn_t (fun q => hb (ite01.mp q)) ?_
  refine rdg hK h.1 2 rfl (by decide) ?_
  rw [n2.1]
  by_cases h6 : nn R 2 = 20
  · rw [if_pos h6]
    refine rn_f (fun q => q (by rw [h6]; rfl)) ?_
    exact ro_refuses hK h rfl
  rw [if_neg h6]
  refine rn_t (fun e => h6 (nI_inj (b := 20) e (by omega) (by decide))) ?_
  refine rn_bind (ri_keeps h hK hNf) (fun d1 hd => ?_)
  obtain ⟨x1, x2⟩ := hd
  have ha := ks_a hK 243 0 15642 rfl
  refine rdg hK x1.1 2 rfl (by decide) ?_
  rw [n2.1]
  refine rn_eq (m_ga hK) ?_
  refine r_gP hK 242 12 0 243 rfl (by decide) ?_
  refine rn_eq (q_sI ha (1366 + 3 * nn R 2) (ix_ga0 (nn R 2)) (by omega) (by decide)) ?_
  have y1 := ri_cellG (j := 1366 + 3 * nn R 2) (v := x) x1 hN (by omega) (fun s k _ q1 q2 => by omega)
  have w1 : WN (va_up R (1366 + 3 * nn R 2) x) := wn_up hN (by omega)
  refine r_gP hK 242 12 0 243 rfl (by decide) ?_
  have fin : ∀ o : Int32, Rn (f_X12_gauge_71 N sh (z + 242) ((1366 : Int32) + (3 : Int32) * nI (nn R 2)) (z + 243) ((1366 : Int32) + (3 : Int32) * nI (nn R 2) + 1) o _) (RO z R K u (nI (nn R 2), some (gaR R x o)) d) := fun o => by
    unfold f_X12_gauge_71
    refine rn_eq (q_sI ha (1366 + 3 * nn R 2 + 1) (ix_ga (nn R 2) 1) (by omega) (by decide)) ?_
    have y2 := ri_cellG (j := 1366 + 3 * nn R 2 + 1) (v := o) y1 w1 (by omega) (fun s k _ q1 q2 => by omega)
    have w2 : WN (va_up (va_up R (1366 + 3 * nn R 2) x) (1366 + 3 * nn R 2 + 1) o) := wn_up w1 (by omega)
    refine r_gP hK 242 12 0 243 rfl (by decide) ?_
    refine rn_eq (q_sI ha (1366 + 3 * nn R 2 + 2) (ix_ga (nn R 2) 2) (by omega) (by decide)) ?_
    have y3 := ri_cellG (j := 1366 + 3 * nn R 2 + 2) (v := -1) y2 w2 (by omega) (fun s k _ q1 q2 => by omega)
    have w3 : WN (va_up (va_up (va_up R (1366 + 3 * nn R 2) x) (1366 + 3 * nn R 2 + 1) o) (1366 + 3 * nn R 2 + 2) (-1)) := wn_up w2 (by omega)
    refine r_gP hK 242 12 0 243 rfl (by decide) ?_
    refine rn_eq (q_aT ha 2 rfl (by decide) (by decide)) ?_
    rw [y3.1 2 (by decide), va_up_n (by omega), va_up_n (by omega), va_up_n (by omega), n2.1, nI_1]
    refine rn_eq (q_sI ha 2 rfl (by decide) (by decide)) ?_
    have y4 := ri_cellG (j := 2) (v := nI (nn R 2 + 1)) y3 w3 (by omega) (fun s k _ q1 q2 => by omega)
    refine rdg hK y4.1 2 rfl (by decide) ?_
    rw [va_up_s, nI_pred]
    exact ro_done hK y4 (x2.tr ((MFR.wI (by decide) (by decide)).tr ((MFR.wI (by decide) (by decide)).tr ((MFR.wI (by decide) (by decide)).tr (MFR.wI (by decide) (by decide)))))) rfl
  refine rn_ite (fun h7 => ?_) (fun h7 => ?_)
  · rw [if_pos h7]
    exact fin 0
  · rw [if_neg h7]
    exact fin 1
theorem k_gauge {x w : Int32} (hNf : 30 ≤ N) (h : CI s z ow R K u y c) (hR : WF R) (hKF : WF K) : Rn (f_X11_gauge N z x w s) (KO z R K u c (sp_gauge R x w) s) := by
  have hK := h.1
  have hN := hR.1
  have n0 := hN.1.2
  have n2 := hN.2.2.1.2
  have ht4 : tck 15 3 = true := by decide
  have hB : BK s.1 s.2 z ow 3 R y.1 := h.2.2.1
  unfold f_X11_gauge
  refine rn_t (ks_o hK 0 11 rfl) ?_
  refine r_gP hK 0 11 1 3 rfl (by decide) ?_
  refine rn_eq (k_hasCrossing hK hB.1 hN) ?_
  by_cases hb : x < 0 ∨ nI (nn R 0) ≤ x
  · rw [show sp_gauge R x w = _ from if_pos hb]
    refine rn_f (fun q => q (ite01.mpr hb)) ?_
    refine rn_bind (k_refuse hK) (fun r hr => rn_some ?_)
    exact ko_lg h hr rfl
  rw [show sp_gauge R x w = _ from if_neg hb]
  refine rn_t (fun q => hb (ite01.mp q)) ?_
  refine r_gP hK 0 11 1 3 rfl (by decide) ?_
  refine r_gP hK 3 1 2 15 rfl (by decide) ?_
  refine r_gI hK (i := 15) (c := 8) rfl ?_
  rw [hB.2.2.1.1]
  by_cases h6 : nn R 2 = 20
  · rw [if_pos h6]
    refine rn_f (by rw [h6]; decide) ?_
    refine rn_bind (k_refuse hK) (fun r hr => rn_some ?_)
    exact ko_lg h hr rfl
  rw [if_neg h6]
  refine rn_t (nI_lt (b := 20) (by omega) (by decide)) ?_
  refine rn_bind (ci_change hNf h hR.1 hR.2.1 hKF.1) (fun s1 hs => ?_)
  obtain ⟨f1, g1, g2, g3, ow1, y1, -, c1⟩ := hs
  have hK1 := c1.1
  have hw1 := c1.2.1
  have hB1 : BK s1.1 s1.2 z ow1 3 R y1.1 := c1.2.2.1
  unfold f_X11_gauge_44
  refine r_gP hK1 0 11 1 3 rfl (by decide) ?_
  refine rn_bind (P := fun r => r.1 = nI (nn R 2) ∧ ∃ ow' q', ES (IX z ow1 3 39) s1 ow1 r.2 ow' ∧ BK r.2.1 r.2.2 z ow' 3 (gaR R x (if w = 0 then 0 else 1)) q' ∧ r.2.1.1.2.2 + 2 * pot y1.1 ≤ s1.1.1.2.2 + 2 * pot q' ∧ r.2.1.1.2.1 + pot y1.1 ≤ s1.1.1.2.1 + pot q') ?_ (fun r hr => ?_)
  · unfold f_X1_addGauge
    refine rn_t (ks_o hK1 3 1 rfl) ?_
    refine r_gP hK1 3 1 2 15 rfl (by decide) ?_
    refine rn_bind (tb_add (s := s1) (by omega) ht4 (by omega) hK1 hw1 hB1.2.2.1) (fun r hr => ?_)
    obtain ⟨r1, ow2, L2, e2, t2, l2, p1, p2⟩ := hr
    rw [r1]
    have e2 : ES (IX z ow1 15 16) s1 ow1 r.2 ow2 := e2.mono (fun a _ ha => tx_ix ht4 hw1 ha)
    have hK2 : KS r.2.1 z := KS.es hK1 e2
    have hw2 : OWS ow2 z := OWS.es hw1 hK1 e2
    have mo : ∀ {d1 d2 : Dt}, FD (TX z ow2 15) d1 d2 → FD (IX z ow2 15 16) d1 d2 := fun h => h.mono (fun a ha => tx_ix ht4 hw2 ha)
    unfold f_X1_addGauge_7
    refine r_gP hK2 3 1 2 15 rfl (by decide) ?_
    refine rn_bind (tb_put (o := 15) (nc := 3) (c := 0) hK2 hw2 ht4 t2 rfl (Nat.lt_succ_self _) rfl (by decide)) (fun d3 hd3 => ?_)
    refine r_gP hK2 3 1 2 15 rfl (by decide) ?_
    have fin : ∀ o : Int32, Rn (f_X1_addGauge_33 N (z + 3) (nI (nn R 2)) (z + 15) (nI (nn R 2)) (1 : Int32) o (r.2.1, d3)) (fun r => r.1 = nI (nn R 2) ∧ ∃ ow' q', ES (IX z ow1 3 39) s1 ow1 r.2 ow' ∧ BK r.2.1 r.2.2 z ow' 3 (gaR R x o) q' ∧ r.2.1.1.2.2 + 2 * pot y1.1 ≤ s1.1.1.2.2 + 2 * pot q' ∧ r.2.1.1.2.1 + pot y1.1 ≤ s1.1.1.2.1 + pot q') := fun o => by
      unfold f_X1_addGauge_33
      refine rn_bind (tb_put (o := 15) (nc := 3) (c := 1) hK2 hw2 ht4 hd3.1 rfl (Nat.lt_succ_self _) rfl (by decide)) (fun d5 hd5 => ?_)
      refine r_gP hK2 3 1 2 15 rfl (by decide) ?_
      refine rn_bind (tb_put (o := 15) (nc := 3) (c := 2) hK2 hw2 ht4 hd5.1 rfl (Nat.lt_succ_self _) rfl (by decide)) (fun d6 hd6 => ?_)
      have ee : ES (IX z ow1 15 16) s1 ow1 (r.2.1, d6) ow2 := es_fd e2 (((mo hd3.2).tr (mo hd5.2)).tr (mo hd6.2))
      have w3 := hw1 3 (by decide) (by decide)
      have hce : CE r.2.1 d6 z ow2 3 y1.1.2.2.2.2 (inC R) (vC R) := ce_ix (s := s1) (s' := (r.2.1, d6)) hB1.2.2.2.2.2.1 hK1 w3 (by decide) ee (by omega)
      refine rn_bind (widenCells (s := (r.2.1, d6)) (G := nn R 2 + 1) (Or.inl rfl) (by omega) hK2 hw2 hd6.1.1 hce hB1.2.2.2.2.2.2.2.2.2.2.2) (fun s3 hs3 => ?_)
      obtain ⟨ow3, Lc3, e3, ce3, b1, b2, b3, b4, b5⟩ := hs3
      unfold f_X1_addGauge_50
      have e3s : ES (IX z ow2 3 3) (r.2.1, d6) ow2 s3 ow3 := e3
      refine rn_some ⟨rfl, ow3, (y1.1.1, L2, y1.1.2.2.1, y1.1.2.2.2.1, Lc3), ?_, ?_, ?_, ?_⟩
      · have a1 : ES (IX z ow1 3 39) s1 ow1 (r.2.1, d6) ow2 := ee.mono (fun a _ ha => ix_mono ha (by omega) (by omega))
        exact a1.tr e3s (fun a ha hx => ix_mono (ix_old ee ha hx) (by omega) (by omega))
      · obtain ⟨v0, v1, v2, v3, v4, v5, v6, v7⟩ := hB1
        have en : ∀ k, k ≠ 2 → k < 1366 → nn (gaR R x o) k = nn R k := fun k a1 a2 => by unfold nn; rw [gaR_n a1 (by omega)]
        have t1 := tb_ix (tb_ix v1 hK1 hw1 (o := 4) (nc := 9) (by decide) ee (by omega)) hK2 hw2 (by decide) e3s (by omega)
        have t3 := tb_ix (tb_ix v3 hK1 hw1 (o := 20) (nc := 9) (by decide) ee (by omega)) hK2 hw2 (by decide) e3s (by omega)
        have t4 := tb_ix (tb_ix v4 hK1 hw1 (o := 31) (nc := 4) (by decide) ee (by omega)) hK2 hw2 (by decide) e3s (by omega)
        have tg := tb_ix (s := (r.2.1, d6)) hd6.1 hK2 hw2 ht4 e3s (by omega)
        have n1 := hN.2.1.2
        have n3 := hN.2.2.2.1.2
        refine ⟨?_, ?_, ?_, ?_, ?_, ?_, ?_, ⟨v7.1, fun c9 hc9 => ?_, v7.2.2.1, v7.2.2.2.1, b2⟩⟩
        · rw [b5, gaR_n (by omega) (by omega)]
          rw [((ee.2.2 (z + 3) (by have := hK1.2.1; omega)).2.2.2.2 (nix w3 (by decide) (by omega))).1]
          exact v0
        · rw [en 1 (by omega) (by omega)]
          exact tb_congr t1 (fun c' i' _ hi' => gaR_n (by omega) (by omega))
        · rw [gaR_nn hN]
          refine tb_congr tg (fun c' i' hc' hi' => ?_)
          show gaR R x o (1366 + 3 * i' + c') = _
          by_cases ei : i' = nn R 2
          · subst ei
            rcases (show c' = 0 ∨ c' = 1 ∨ c' = 2 by omega) with rfl | rfl | rfl
            · unfold gaR
              rw [va_up_n (by omega), va_up_n (by omega), va_up_n (by omega), show va_up R (1366 + 3 * nn R 2) x (1366 + 3 * nn R 2 + 0) = x from va_up_s]
              simp
            · unfold gaR
              rw [va_up_n (by omega), va_up_n (by omega), va_up_s]
              simp
            · unfold gaR
              rw [va_up_n (by omega), va_up_s]
              simp
          · rw [gaR_n (by omega) (by omega)]
            simp [ei]
            rfl
        · rw [en 3 (by omega) (by omega)]
          exact tb_congr t3 (fun c' i' _ hi' => vP_cg (by omega) (fun j j1 j2 => gaR_n (by omega) (by omega)))
        · rw [en 4 (by omega) (by omega)]
          exact tb_congr t4 (fun c' i' _ hi' => vD_cg (wdn_of hR) hi' (fun j hj => gaR_n (by omega) (by omega)) (fun t k ht hk => gaR_n (by omega) (by omega)))
        · obtain ⟨a, z1, z2, z3, z4, z5, z6⟩ := ce3
          refine ⟨a, z1, z2, z3, z4, z5, fun k hk => ?_⟩
          have hk2 : inC R k := by
            obtain ⟨g, hh, q1, q2, q3⟩ := hk
            rw [gaR_nn hN] at q1
            by_cases eg : g = nn R 2
            · subst eg
              have : nn (gaR R x o) (1366 + 3 * nn R 2 + 2) = 0 := nn_m1 (by unfold gaR; rw [va_up_n (by omega), va_up_s])
              omega
            · have : nn (gaR R x o) (1366 + 3 * g + 2) = nn R (1366 + 3 * g + 2) := by unfold nn; rw [gaR_n (by omega) (by omega)]
              rw [this] at q2
              exact ⟨g, hh, by omega, q2, q3⟩
          have r9 := z6 k hk2
          refine ⟨r9.1, r9.2.trans ?_⟩
          unfold vC
          rw [gaR_n (by omega) (by omega), gaR_n (by omega) (by omega)]
        · rw [gaR_nn hN]
          exact b1
        · have := l2 c9 hc9
          have := v7.2.1 c9 hc9
          show L2 c9 ≤ 40
          omega
      · unfold pot
        show s3.1.1.2.2 + 2 * (smN y1.1.1 9 + smN y1.1.2.1 3 + smN y1.1.2.2.1 9 + smN y1.1.2.2.2.1 4 + y1.1.2.2.2.2) ≤ s1.1.1.2.2 + 2 * (smN y1.1.1 9 + smN L2 3 + smN y1.1.2.2.1 9 + smN y1.1.2.2.2.1 4 + Lc3)
        have b3 : s3.1.1.2.2 + 2 * y1.1.2.2.2.2 ≤ r.2.1.1.2.2 + 2 * Lc3 := b3
        omega
      · unfold pot
        show s3.1.1.2.1 + (smN y1.1.1 9 + smN y1.1.2.1 3 + smN y1.1.2.2.1 9 + smN y1.1.2.2.2.1 4 + y1.1.2.2.2.2) ≤ s1.1.1.2.1 + (smN y1.1.1 9 + smN L2 3 + smN y1.1.2.2.1 9 + smN y1.1.2.2.2.1 4 + Lc3)
        have b4 : s3.1.1.2.1 + y1.1.2.2.2.2 ≤ r.2.1.1.2.1 + Lc3 := b4
        omega
    refine rn_ite (fun h8 => ?_) (fun h8 => ?_)
    · rw [if_pos h8]
      exact fin 0
    · rw [if_neg h8]
      exact fin 1
  · obtain ⟨r1, ow2, q2, e2, bk2, m1, m2⟩ := hr
    have hK2 : KS r.2.1 z := KS.es hK1 e2
    unfold f_X11_gauge_54
    rw [r1]
    refine rn_bind (k_answer hK2) (fun r9 hr9 => rn_some ?_)
    have qn := ci_new2 c1 g1 g2 g3 e2 bk2 (pb_congr c1.2.2.2.2.2.1 (gaR_n (by omega) (by omega)) (fun j hj => gaR_n (by omega) (by omega))) m1 m2
    have q3 := ci_lg qn.1 hr9.2
    exact ⟨hr9.1, (f1.tr qn.2).tr q3.2, ow2, _, q3.1⟩
end GN
