/-! gauges: lose(), a reading -/
def BT (sh : Sh) (d : Dt) (z : Nat) (ow : Nat → Nat) (b : Nat) (R : Nat → Int32) (q : BL) : Prop := d.1 (z + b) 0 = R 0 ∧ TB sh d z ow (b + 1) 9 (nn R 1) (vS R) q.1 ∧ TB sh d z ow (b + 12) 3 (nn R 2) (vG R) q.2.1 ∧ TB sh d z ow (b + 17) 9 (nn R 3) (vP R) q.2.2.1 ∧ TB sh d z ow (b + 28) 4 (nn R 4) (vD R) q.2.2.2.1 ∧ nn R 2 * 200 ≤ q.2.2.2.2 ∧ QB q
section GA
variable {s : AS} {sh : Sh} {d : Dt} {z : Nat} {ow : Nat → Nat} {R R' K : Nat → Int32} {u : Bool} {y : YL} {c N b : Nat} {q : BL}
theorem BK.bt (h : BK sh d z ow b R q) : BT sh d z ow b R q ∧ CE sh d z ow b q.2.2.2.2 (inC R) (vC R) := ⟨⟨h.1, h.2.1, h.2.2.1, h.2.2.2.1, h.2.2.2.2.1, h.2.2.2.2.2.2.1, h.2.2.2.2.2.2.2⟩, h.2.2.2.2.2.1⟩
theorem BT.bk (h : BT sh d z ow b R q) (hc : CE sh d z ow b q.2.2.2.2 (inC R) (vC R)) : BK sh d z ow b R q := ⟨h.1, h.2.1, h.2.2.1, h.2.2.2.1, h.2.2.2.2.1, hc, h.2.2.2.2.2.1, h.2.2.2.2.2.2⟩
theorem wd_nn (h : WF R) {i : Nat} (hi : i < nn R 4) : nn R (9642 + 3 * i) < 150 := by
  obtain ⟨t, c, h1, h2, -⟩ := h.2.2.2.2.2 i hi
  have := h.1.2.1.2
  unfold nn
  rw [h2, nI_clamp (by omega)]
  omega
theorem bt_congr (hR : WF R) (h : BT sh d z ow b R q) (e : ∀ j, j < 1426 ∨ 9426 ≤ j → R' j = R j) : BT sh d z ow b R' q := by
  obtain ⟨h0, h1, h2, h3, h4, h6, h7⟩ := h
  have n1 := hR.1.2.1.2
  have n2 := hR.1.2.2.1.2
  have en : ∀ j, j < 1426 ∨ 9426 ≤ j → nn R' j = nn R j := fun j hj => by unfold nn; rw [e j hj]
  unfold BT
  rw [e 0 (by omega), en 1 (by omega), en 2 (by omega), en 3 (by omega), en 4 (by omega)]
  refine ⟨h0, tb_congr h1 (fun c' i' hc hi' => e _ (by omega)), tb_congr h2 (fun c' i' hc hi' => e _ (by omega)), tb_congr h3 (fun c' i' hc hi' => ?_), tb_congr h4 (fun c' i' hc hi' => ?_), h6, h7⟩
  · unfold vP
    simp only [e (9426 + 13 * i' + 6) (by omega), e (9426 + 13 * i' + 7) (by omega), e (9426 + 13 * i' + 8) (by omega), e (9426 + 13 * i' + 9) (by omega), e (9426 + 13 * i' + 10) (by omega), e (9426 + 13 * i' + 1) (by omega), e (9426 + 13 * i' + 2) (by omega), e (9426 + 13 * i') (by omega), e (9426 + 13 * i' + 11) (by omega), e (9426 + 13 * i' + 12) (by omega)]
  · have hs := wd_nn hR hi'
    unfold vD
    rw [en (9642 + 3 * i') (by omega), e (9642 + 3 * i') (by omega), e (9642 + 3 * i' + 1) (by omega), e (9642 + 3 * i' + 2) (by omega), e (16 + 9 * nn R (9642 + 3 * i') + 7) (by omega), e (16 + 9 * nn R (9642 + 3 * i') + 8) (by omega)]
theorem bt_upG {g k : Nat} {v : Int32} {d' : Dt} (hb : bck b) (hK : KS sh z) (hw : OWS ow z) (hR : WF R) (h : BT sh d z ow b R q) (hg : g < nn R 2) (hk : k < 3) (ht : TB sh d' z ow (b + 12) 3 (nn R 2) (fun c' i' => if c' = k ∧ i' = g then v else vG R c' i') q.2.1) (hf : FD (TX z ow (b + 12)) d d') : BT sh d' z ow b (va_up R (1366 + 3 * g + k) v) q := by
  obtain ⟨h0, h1, h2, h3, h4, h6, h7⟩ := h
  have hwb := bck_w hb hw
  have hts := bck_t hb
  have n1 := hR.1.2.1.2
  have n2 := hR.1.2.2.1.2
  have hf2 : FD (IX z ow (b + 12) (b + 13)) d d' := hf.mono (fun a ha => tx_ix hts.2.1 hw ha)
  have he : ES (IX z ow (b + 12) (b + 13)) (sh, d) ow (sh, d') ow := hf2.es
  have r0 : d'.1 (z + b) = d.1 (z + b) := (hf2 (z + b) (nix hwb.1 hwb.2 (by omega))).1
  have e : ∀ j, j ≠ 1366 + 3 * g + k → va_up R (1366 + 3 * g + k) v j = R j := fun j hj => va_up_n hj
  have t1 : TB sh d' z ow (b + 1) 9 (nn R 1) (vS R) q.1 := tb_ix (s := (sh, d)) h1 hK hw hts.1 he (by omega)
  have t3 : TB sh d' z ow (b + 17) 9 (nn R 3) (vP R) q.2.2.1 := tb_ix (s := (sh, d)) h3 hK hw hts.2.2.1 he (by omega)
  have t4 : TB sh d' z ow (b + 28) 4 (nn R 4) (vD R) q.2.2.2.1 := tb_ix (s := (sh, d)) h4 hK hw hts.2.2.2 he (by omega)
  unfold BT
  rw [nn_up (k := 1) (by omega), nn_up (k := 2) (by omega), nn_up (k := 3) (by omega), nn_up (k := 4) (by omega), e 0 (by omega), r0]
  refine ⟨h0, tb_congr t1 (fun c' i' hc hi' => e _ (by omega)), tb_congr ht (fun c' i' hc hi' => ?_), tb_congr t3 (fun c' i' hc hi' => ?_), tb_congr t4 (fun c' i' hc hi' => ?_), h6, h7⟩
  · show va_up R (1366 + 3 * g + k) v (1366 + 3 * i' + c') = _
    by_cases q : c' = k ∧ i' = g
    · rw [if_pos q, q.1, q.2, va_up_s]
    · rw [if_neg q, e _ (by omega)]
      rfl
  · unfold vP
    simp only [e (9426 + 13 * i' + 6) (by omega), e (9426 + 13 * i' + 7) (by omega), e (9426 + 13 * i' + 8) (by omega), e (9426 + 13 * i' + 9) (by omega), e (9426 + 13 * i' + 10) (by omega), e (9426 + 13 * i' + 1) (by omega), e (9426 + 13 * i' + 2) (by omega), e (9426 + 13 * i') (by omega), e (9426 + 13 * i' + 11) (by omega), e (9426 + 13 * i' + 12) (by omega)]
  · have hs := wd_nn hR hi'
    unfold vD
    rw [nn_up (k := 9642 + 3 * i') (by omega), e (9642 + 3 * i') (by omega), e (9642 + 3 * i' + 1) (by omega), e (9642 + 3 * i' + 2) (by omega), e (16 + 9 * nn R (9642 + 3 * i') + 7) (by omega), e (16 + 9 * nn R (9642 + 3 * i') + 8) (by omega)]
theorem k_isMissing {g : Nat} (hb : bck b) (hK : KS sh z) (h : BT sh d z ow b R q) (hg : g < nn R 2) : f_X1_isMissing N sh (z + b) (nI g) d = some (if R (1366 + 3 * g + 2) = -1 then 1 else 0) := by
  have hts := bck_t hb
  refine rn_val ?_
  unfold f_X1_isMissing
  refine rn_t (ks_o hK b 1 (bck_o hb)) ?_
  refine r_gP hK b 1 2 (b + 12) (bck_o hb) (bck_p hb).2.1 ?_
  refine rn_eq (tb_get (c := 2) hK hts.2.1 h.2.2.1 rfl hg rfl (by decide)) ?_
  refine rn_ite (fun h1 => ?_) (fun h1 => ?_)
  · have h1 : ¬ R (1366 + 3 * g + 2) = -1 := h1
    rw [if_neg h1]
    exact ⟨0, rfl, rfl⟩
  · have h1 : R (1366 + 3 * g + 2) = -1 := Decidable.of_not_not h1
    rw [if_pos h1]
    exact ⟨1, rfl, rfl⟩
/-! lose() -/
def sp_lose (R : Nat → Int32) (x : Int32) : Int32 × Option (Nat → Int32) := if x < 0 ∨ nI (nn R 2) ≤ x then (-2, none) else ((if R (1366 + 3 * x.toNatClampNeg + 2) = -1 then 0 else 1), some (va_up R (1366 + 3 * x.toNatClampNeg + 2) (-1)))
theorem nn_m1 {j : Nat} (h : R j = -1) : nn R j = 0 := by
  unfold nn
  rw [h]
  decide
theorem m_lose {x : Int32} (hNf : 15642 < N) (hK : KS sh z) (h : RI d z R K u) (hR : WF R) : Rn (f_X12_lose N sh (z + 242) x d) (RO z R K u (sp_lose R x) d) := by
  have hN := hR.1
  have n2 := hN.2.2.1.2
  unfold f_X12_lose
  refine rn_t (ks_o hK 242 12 rfl) ?_
  refine rn_eq (ri_isGauge hK h hN) ?_
  by_cases hb : x < 0 ∨ nI (nn R 2) ≤ x
  · rw [show sp_lose R x = _ from if_pos hb]
    refine rn_f (fun q => q (ite01.mpr hb)) ?_
    exact ro_refuses hK h rfl
  · rw [show sp_lose R x = _ from if_neg hb]
    refine rn_t (fun q => hb (ite01.mp q)) ?_
    obtain ⟨g, hg, rfl, e2⟩ := st_of (by omega) hb
    rw [e2]
    refine rn_bind (ri_keeps h hK hNf) (fun d1 hd => ?_)
    obtain ⟨x1, x2⟩ := hd
    have ha := ks_a hK 243 0 15642 rfl
    refine r_gP hK 242 12 0 243 rfl (by decide) ?_
    refine rn_eq (m_ga hK) ?_
    refine rn_eq (q_aT ha (1366 + 3 * g + 2) (ix_ga g 2) (by omega) (by decide)) ?_
    refine r_gP hK 242 12 0 243 rfl (by decide) ?_
    refine rn_eq (m_ga hK) ?_
    refine rn_eq (q_sI ha (1366 + 3 * g + 2) (ix_ga g 2) (by omega) (by decide)) ?_
    rw [x1.1 (1366 + 3 * g + 2) (by omega)]
    have r1 := ri_cellG (j := 1366 + 3 * g + 2) (v := -1) x1 hN (by omega) (fun s k _ q1 q2 => by omega)
    have hh := (hR.2.1 g hg).1
    have hh2 := (hR.2.1 g hg).2
    refine rn_ite (fun h1 => ?_) (fun h1 => ?_)
    · have hne : ¬ R (1366 + 3 * g + 2) = -1 := fun q => by
        rw [q] at h1
        exact absurd h1 (by decide)
      rw [if_neg hne]
      exact ro_done hK r1 (x2.tr (MFR.wI (by decide) (by decide))) rfl
    · have he : R (1366 + 3 * g + 2) = -1 := hh.resolve_right (fun q => h1 (by rw [q]; exact nI_pos' (by omega)))
      rw [if_pos he]
      exact ro_done hK r1 (x2.tr (MFR.wI (by decide) (by decide))) rfl
theorem k_lose {x : Int32} (hNf : 30 ≤ N) (h : CI s z ow R K u y c) (hR : WF R) (hKF : WF K) : Rn (f_X11_lose N z x s) (KO z R K u c (sp_lose R x) s) := by
  have hK := h.1
  have n2 := hR.1.2.2.1.2
  have ht : tck 15 3 = true := by decide
  have hB : BK s.1 s.2 z ow 3 R y.1 := h.2.2.1
  unfold f_X11_lose
  refine rn_t (ks_o hK 0 11 rfl) ?_
  refine r_gP hK 0 11 1 3 rfl (by decide) ?_
  refine r_gP hK 3 1 2 15 rfl (by decide) ?_
  refine rn_eq (tb_has (o := 15) (nc := 3) hK ht hB.2.2.1) ?_
  by_cases hb : x < 0 ∨ nI (nn R 2) ≤ x
  · rw [show sp_lose R x = _ from if_pos hb]
    refine rn_f (fun q => q (ite01.mpr hb)) ?_
    refine rn_bind (k_refuse hK) (fun r hr => rn_some ?_)
    exact ko_lg h hr rfl
  · rw [show sp_lose R x = _ from if_neg hb]
    refine rn_t (fun q => hb (ite01.mp q)) ?_
    obtain ⟨g, hg, rfl, e2⟩ := st_of (by omega) hb
    rw [e2]
    refine r_gP hK 0 11 1 3 rfl (by decide) ?_
    refine rn_eq (k_isMissing (b := 3) (Or.inl rfl) hK hB.bt.1 hg) ?_
    refine rn_bind (ci_change hNf h hR.1 hR.2.1 hKF.1) (fun s1 hs => ?_)
    obtain ⟨f1, g1, g2, g3, ow1, y1, -, c1⟩ := hs
    have hK1 := c1.1
    have hw1 := c1.2.1
    have hB1 : BK s1.1 s1.2 z ow1 3 R y1.1 := c1.2.2.1
    unfold f_X11_lose_34
    refine r_gP hK1 0 11 1 3 rfl (by decide) ?_
    refine r_gP hK1 3 1 2 15 rfl (by decide) ?_
    refine rn_bind (tb_put (o := 15) (nc := 3) (c := 2) hK1 hw1 ht hB1.2.2.1 rfl hg rfl (by decide)) (fun d1 hd => ?_)
    have hbt := bt_upG (b := 3) (Or.inl rfl) hK1 hw1 hR hB1.bt.1 hg (k := 2) (by decide) hd.1 hd.2
    have hfx : FD (IX z ow1 15 16) s1.2 d1 := hd.2.mono (fun a ha => tx_ix ht hw1 ha)
    have hce : CE s1.1 d1 z ow1 3 y1.1.2.2.2.2 (inC R) (vC R) := ce_ix (s := (s1.1, s1.2)) hB1.bt.2 hK1 (hw1 3 (by decide) (by decide)) (by decide) (hfx.es (sh := s1.1)) (by omega)
    have hce2 : CE s1.1 d1 z ow1 3 y1.1.2.2.2.2 (inC (va_up R (1366 + 3 * g + 2) (-1))) (vC (va_up R (1366 + 3 * g + 2) (-1))) := by
      obtain ⟨a, z1, z2, z3, z4, z5, z6⟩ := hce
      refine ⟨a, z1, z2, z3, z4, z5, fun k hk => ?_⟩
      obtain ⟨g', h', q1, q2, q3⟩ := hk
      rw [nn_up (by omega)] at q1
      by_cases e : g' = g
      · subst e
        rw [nn_m1 va_up_s] at q2
        exact absurd q2 (Nat.not_lt_zero _)
      · rw [nn_up (by omega)] at q2
        have r := z6 k ⟨g', h', q1, q2, q3⟩
        refine ⟨r.1, r.2.trans ?_⟩
        unfold vC
        rw [va_up_n (by omega), va_up_n (by omega)]
    have qn := ci_new c1 g1 g2 g3 (hfx.mono (fun a ha => ix_mono ha (by omega) (by omega))) (hbt.bk hce2) (pb_congr c1.2.2.2.2.2.1 (va_up_n (by omega)) (fun j hj => va_up_n (by omega)))
    by_cases hm : R (1366 + 3 * g + 2) = -1
    · rw [if_pos hm, if_pos hm]
      refine rn_f (by decide) ?_
      unfold f_X11_lose_57
      refine rn_bind (k_answer hK1) (fun r hr => rn_some ?_)
      have q2 := ci_lg qn.1 hr.2
      exact ⟨hr.1, (f1.tr qn.2).tr q2.2, ow1, y1, q2.1⟩
    · rw [if_neg hm, if_neg hm]
      refine rn_t rfl ?_
      unfold f_X11_lose_57
      refine rn_bind (k_answer hK1) (fun r hr => rn_some ?_)
      have q2 := ci_lg qn.1 hr.2
      exact ⟨hr.1, (f1.tr qn.2).tr q2.2, ow1, y1, q2.1⟩
end GA
