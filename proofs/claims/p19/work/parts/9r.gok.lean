/-! go() of both -/
def gok (R : Nat → Int32) (p k : Nat) : Prop := ∀ j, j < k → gst (goF R p j) p
section GOK
variable {s s' s0 s1 : AS} {sh : Sh} {d d' d0 : Dt} {z : Nat} {ow ow' : Nat → Nat} {R R' K : Nat → Int32} {u : Bool} {y y1 : YL} {c N p k l a i t n : Nat} {q q' : BL} {v : Int32} {yy : BL × (Nat → Nat) × Nat × Nat}
theorem goF_ok (hR : WF R) (hp : p < nn R 3) : ∀ k, gok R p k → WF (goF R p k) ∧ nn (goF R p k) 3 = nn R 3
  | 0, _ => ⟨hR, rfl⟩
  | k + 1, h => by
    obtain ⟨h1, h2⟩ := goF_ok hR hp k (fun j hj => h j (by omega))
    have hg := h k (Nat.lt_succ_self k)
    have hp2 : p < nn (goF R p k) 3 := by rw [h2]; exact hp
    have gs := (goS_lt h1 hp2 hg.1).2
    have n1 := h1.1.2.1.2
    refine ⟨goP_wf h1 hp2 hg.1, ?_⟩
    rw [← h2]
    show nn (goP (goF R p k) p) 3 = _
    exact nn_eq (goP_n (fun t _ => by omega) (by omega) (by omega))
theorem gok_s (h : gok R p k) (hg : gst (goF R p k) p) : gok R p (k + 1) := fun j hj => by
  by_cases e : j = k
  · rw [e]
    exact hg
  · exact h j (by omega)
theorem m_shutA (hR : WF R) (hK : KS sh z) (hA : AG (d.1 (z + 243)) R) (hp : p < nn R 3) (hg : nn R (9426 + 13 * p + 8) < nn R (9426 + 13 * p + 7)) : f_X12_isShutAhead N sh (z + 242) (nI p) d = some (if R (16 + 9 * goS R p + 4) = 0 then 0 else 1) := by
  have n1 := hR.1.2.1.2
  have n3 := hR.1.2.2.2.1.2
  have n4 := hR.1.2.2.2.2.2
  obtain ⟨gi, gt⟩ := goS_lt hR hp hg
  obtain ⟨a1, a2, a3, a4, a5⟩ := wp_prt hR hp
  obtain ⟨w1, w2, w3⟩ := wd_at hR gi
  refine rn_val ?_
  unfold f_X12_isShutAhead f_X12_isShutAhead_52
  refine rn_t (ks_o hK 242 12 rfl) ?_
  refine rdpl hK hA 6 (by omega) (by decide) rfl ?_
  refine rdpl hK hA 8 (by omega) (by decide) rfl ?_
  rw [a1, a3, nI_add]
  refine rdd0 hK hA (i := goI R p) (by omega) ?_
  rw [w2]
  refine rn_eq (m_isOpen hK hA (by omega)) ?_
  by_cases h : R (16 + 9 * goS R p + 4) = 0
  · rw [if_pos h, if_pos h]
    exact rn_t (by decide) ⟨0, rfl, rfl⟩
  · rw [if_neg h, if_neg h]
    exact rn_f (fun q => q rfl) ⟨1, rfl, rfl⟩
theorem mgo_loop (hNf : 15642 < N) (hK : KS sh z) (hR : WF R) (hp : p < nn R 3) : ∀ (m k fu : Nat) (d : Dt), k + m = n → n ≤ 50 → m + 1 < fu → gok R p k → MFR z d0 d → RI d z (goF R p k) (if k = 0 then K else R) (if k = 0 then u else true) → Rn (f_X12_go_84 N sh fu (z + 242) (nI p) (nI n) ((9426 : Int32) + (13 : Int32) * nI p) (nI k) 1 d) (RO z R K u (goO R p (goN R p m k)) d0)
  | m, k, fu, d, hk, hn, hf, ho, hM, hI => by
    obtain ⟨fu, rfl⟩ : ∃ q, fu = q + 1 := ⟨fu - 1, by omega⟩
    have n3 := hR.1.2.2.2.1.2
    obtain ⟨hw, e3⟩ := goF_ok hR hp k ho
    have n4 := hw.1.2.2.2.2.2
    have hp2 : p < nn (goF R p k) 3 := by rw [e3]; exact hp
    obtain ⟨a1, a2, a3, a4, a5⟩ := wp_prt hw hp2
    have fin : ∀ d1, MFR z d0 d1 → RI d1 z (goF R p k) (if k = 0 then K else R) (if k = 0 then u else true) → Rn (f_X12_go_166 N sh (z + 242) (nI k) d1) (RO z R K u (goO R p k) d0) := fun d1 hM1 hI1 => by
      unfold f_X12_go_166
      refine rn_eq (m_says hK) (rn_some ⟨rfl, hM1.tr (MFR.wI (by decide) (by decide)), ?_⟩)
      have r := ri_rg hI1 (RG.w242 (k := 3) (v := 0) (Or.inl rfl))
      unfold goO
      by_cases h0 : k = 0
      · subst h0
        rw [if_pos rfl, if_pos rfl] at r
        exact r
      · rw [if_neg h0, if_neg h0] at r
        simp only [if_neg h0]
        exact r
    show Rn (g_X12_go_84 N sh (f_X12_go_84 N sh fu) (z + 242) (nI p) (nI n) ((9426 : Int32) + (13 : Int32) * nI p) (nI k) 1 d) _
    unfold g_X12_go_84
    refine rn_f (by decide) ?_
    cases m with
    | zero =>
      refine rn_t (nI_le (by omega) (by omega)) ?_
      exact fin d hM hI
    | succ m =>
      refine rn_f (nI_ge (by omega) (by omega)) ?_
      refine rdpR hK hI.1 8 (by omega) (by decide) rfl ?_
      refine rdpR hK hI.1 7 (by omega) (by decide) rfl ?_
      rw [a2, a3]
      refine rn_ite (fun h1 => ?_) (fun h1 => ?_)
      · have hn : ¬ gst (goF R p k) p := fun q => by
          have := (nI_leI (by omega) (by omega)).mp h1
          have := q.1
          omega
        rw [show goN R p (m + 1) k = k from if_neg hn]
        exact fin d hM hI
      have hg1 : nn (goF R p k) (9426 + 13 * p + 8) < nn (goF R p k) (9426 + 13 * p + 7) := by
        rcases Nat.lt_or_ge (nn (goF R p k) (9426 + 13 * p + 8)) (nn (goF R p k) (9426 + 13 * p + 7)) with q | q
        · exact q
        · exact absurd (nI_le q (by omega)) h1
      refine r_gI hK (i := 242) (c := 12) rfl ?_
      refine r_pI hK (i := 242) (c := 12) rfl ?_
      have g5 : ∀ w, RG z d (wI d (z + 242) 5 w) := fun w => RG.w242 (Or.inr (Or.inr rfl))
      have hI1 := ri_rg hI (g5 (d.1 (z + 242) 5 + 1))
      have hM1 := hM.tr (g5 (d.1 (z + 242) 5 + 1)).mfr
      refine rn_eq (m_shutA hw hK hI1.1 hp2 hg1) ?_
      unfold f_X12_go_139 f_X12_go_155
      by_cases h2 : goF R p k (16 + 9 * goS (goF R p k) p + 4) = 0
      · have hg : gst (goF R p k) p := ⟨hg1, h2⟩
        rw [if_pos h2, show goN R p (m + 1) k = goN R p m (k + 1) from if_pos hg]
        refine rn_f (fun q => q rfl) ?_
        refine rn_f (by decide) ?_
        have ih := mgo_loop hNf hK hR hp m (k + 1) fu
        have stp : ∀ d2, MFR z d0 d2 → RI d2 z (goF R p k) R true → Rn ((f_X12_goesOn N sh (z + 242) (nI p) d2).bind fun v22 => f_X12_go_84 N sh fu (z + 242) (nI p) (nI n) ((9426 : Int32) + (13 : Int32) * nI p) (nI k + 1) 1 v22) (RO z R K u (goO R p (goN R p m (k + 1))) d0) := fun d2 hM2 hI2 => by
          refine rn_bind (m_goesOn hw hK hp2 hg1 hI2) (fun d3 hd3 => ?_)
          rw [nI_1]
          refine ih d3 (by omega) hn (by omega) (gok_s ho hg) (hM2.tr hd3.1) ?_
          rw [if_neg (Nat.succ_ne_zero k), if_neg (Nat.succ_ne_zero k)]
          exact hd3.2
        by_cases hk0 : k = 0
        · subst hk0
          refine rn_f (fun q => q rfl) ?_
          rw [if_pos rfl, if_pos rfl] at hI1
          refine rn_bind (ri_keeps hI1 hK hNf) (fun d2 hd2 => ?_)
          exact stp d2 (hM1.tr hd2.2) hd2.1
        · refine rn_t (nI_ne0 (by omega) (by omega)) ?_
          rw [if_neg hk0, if_neg hk0] at hI1
          exact stp _ hM1 hI1
      · rw [if_neg h2, show goN R p (m + 1) k = k from if_neg (fun q => h2 q.2)]
        refine rn_t (by decide) ?_
        refine rn_t rfl ?_
        obtain ⟨fu, rfl⟩ : ∃ q, fu = q + 1 := ⟨fu - 1, by omega⟩
        show Rn (g_X12_go_84 N sh (f_X12_go_84 N sh fu) (z + 242) (nI p) (nI n) ((9426 : Int32) + (13 : Int32) * nI p) (nI k) 0 _) _
        unfold g_X12_go_84
        exact rn_t rfl (fin _ hM1 hI1)
theorem m_go {x w : Int32} (hNf : 15642 < N) (hK : KS sh z) (h : RI d z R K u) (hR : WF R) : Rn (f_X12_go N sh (z + 242) x w d) (RO z R K u (sp_go R x w) d) := by
  have hN := hR.1
  have n3 := hN.2.2.2.1.2
  have n4 := hN.2.2.2.2.2
  have bad : (x < 0 ∨ nI (nn R 3) ≤ x) ∨ (w < 1 ∨ 50 < w) → Rn (f_X12_go_18 N sh (z + 242) d) (RO z R K u (sp_go R x w) d) := fun hb => by
    rw [show sp_go R x w = _ from if_pos hb]
    exact ro_refuses hK h rfl
  unfold f_X12_go
  refine rn_t (ks_o hK 242 12 rfl) ?_
  refine rn_eq (ri_isPlough hK h hN) ?_
  refine rn_ite (fun h1 => bad (Or.inl (ite01.mp h1))) (fun h1 => ?_)
  refine rn_eq m_in ?_
  refine rn_ite (fun h2 => ?_) (fun h2 => bad (Or.inr (ite01.mp (Decidable.of_not_not h2))))
  have h1 : ¬ (x < 0 ∨ nI (nn R 3) ≤ x) := fun q => h1 (ite01.mpr q)
  have h2 : ¬ (w < 1 ∨ 50 < w) := fun q => h2 (ite01.mpr q)
  rw [show sp_go R x w = _ from if_neg (fun q => q.elim h1 h2)]
  obtain ⟨p, hp, rfl, e1⟩ := st_of (by omega) h1
  obtain ⟨n, hn, rfl, e2⟩ := st_of (x := w) (n := 51) (by decide) (fun q => q.elim (fun q => h2 (Or.inl (Int32.lt_of_lt_of_le q (by decide)))) (fun q => h2 (Or.inr ((lt_pred (n := 51) (by decide)).mpr q))))
  rw [e1, e2]
  obtain ⟨a1, a2, a3, a4, a5⟩ := wp_prt hR hp
  refine rn_eq (m_pl hK) ?_
  refine rdpR hK h.1 2 (by omega) (by decide) rfl ?_
  by_cases h3 : R (9426 + 13 * p + 2) = 1
  · refine rn_f (fun q => q h3) ?_
    rw [if_pos h3]
    exact ro_refuses hK h rfl
  refine rn_t h3 ?_
  rw [show (if R (9426 + 13 * p + 2) = 1 then ((-4 : Int32), (none : Option (Nat → Int32))) else if nn R (9426 + 13 * p + 8) < nn R (9426 + 13 * p + 7) then goO R p (goN R p n 0) else (-8, none)) = _ from if_neg h3]
  refine rdpR hK h.1 8 (by omega) (by decide) rfl ?_
  refine rdpR hK h.1 7 (by omega) (by decide) rfl ?_
  rw [a2, a3]
  by_cases h4 : nn R (9426 + 13 * p + 8) < nn R (9426 + 13 * p + 7)
  · refine rn_t (nI_lt h4 (by omega)) ?_
    rw [if_pos h4]
    exact mgo_loop hNf hK hR hp n 0 N d (by omega) (by omega) (by omega) (fun j hj => absurd hj (Nat.not_lt_zero j)) MFR.rf h
  · refine rn_f (fun q => h4 ((nI_ltI (by omega) (by omega)).mp q)) ?_
    rw [if_neg h4]
    exact ro_refuses hK h rfl
/-! the class -/
theorem k_next (hR : WF R) (hK : KS sh z) (hB : BK sh d z ow 3 R q) (hp : p < nn R 3) : f_X1_nextDrive N sh (z + 3) (nI p) d = some (nI (goI R p)) := by
  obtain ⟨a1, a2, a3, a4, a5⟩ := wp_prt hR hp
  refine rn_val ?_
  unfold f_X1_nextDrive
  refine rn_t (ks_o hK 3 1 rfl) ?_
  refine r_gP hK 3 1 3 20 rfl (by decide) ?_
  refine rn_eq (tb_get (o := 20) (nc := 9) (c := 0) hK (by decide) hB.2.2.2.1 rfl hp rfl (by decide)) ?_
  have e0 : vP R 0 p = R (9426 + 13 * p + 6) := rfl
  refine r_gP hK 3 1 3 20 rfl (by decide) ?_
  refine rn_eq (tb_get (o := 20) (nc := 9) (c := 2) hK (by decide) hB.2.2.2.1 rfl hp rfl (by decide)) ?_
  have e2 : vP R 2 p = R (9426 + 13 * p + 8) := rfl
  rw [e0, e2, a1, a3]
  exact rn_some (nI_add _ _)
theorem k_left (hR : WF R) (hK : KS sh z) (hB : BK sh d z ow 3 R q) (hp : p < nn R 3) : f_X1_hasDriveLeft N sh (z + 3) (nI p) d = some (if nn R (9426 + 13 * p + 8) < nn R (9426 + 13 * p + 7) then 1 else 0) := by
  have n4 := hR.1.2.2.2.2.2
  obtain ⟨a1, a2, a3, a4, a5⟩ := wp_prt hR hp
  refine rn_val ?_
  unfold f_X1_hasDriveLeft f_X1_hasDriveLeft_26
  refine rn_t (ks_o hK 3 1 rfl) ?_
  refine r_gP hK 3 1 3 20 rfl (by decide) ?_
  refine rn_eq (tb_get (o := 20) (nc := 9) (c := 2) hK (by decide) hB.2.2.2.1 rfl hp rfl (by decide)) ?_
  have e2 : vP R 2 p = R (9426 + 13 * p + 8) := rfl
  refine r_gP hK 3 1 3 20 rfl (by decide) ?_
  refine rn_eq (tb_get (o := 20) (nc := 9) (c := 1) hK (by decide) hB.2.2.2.1 rfl hp rfl (by decide)) ?_
  have e1 : vP R 1 p = R (9426 + 13 * p + 7) := rfl
  rw [e1, e2, a2, a3]
  by_cases h : nn R (9426 + 13 * p + 8) < nn R (9426 + 13 * p + 7)
  · rw [if_pos h]
    exact rn_f (nI_ge h (by omega)) ⟨1, rfl, rfl⟩
  · rw [if_neg h]
    exact rn_t (nI_le (by omega) (by omega)) ⟨0, rfl, rfl⟩
theorem k_nshut (hR : WF R) (hK : KS sh z) (hB : BK sh d z ow 3 R q) (hp : p < nn R 3) (hg : nn R (9426 + 13 * p + 8) < nn R (9426 + 13 * p + 7)) : f_X1_isNextShut N sh (z + 3) (nI p) d = some (if R (16 + 9 * goS R p + 4) = 0 then 0 else 1) := by
  obtain ⟨gi, gt⟩ := goS_lt hR hp hg
  obtain ⟨w1, w2, w3⟩ := wd_at hR gi
  refine rn_val ?_
  unfold f_X1_isNextShut f_X1_isNextShut_30
  refine rn_t (ks_o hK 3 1 rfl) ?_
  refine r_gP hK 3 1 1 4 rfl (by decide) ?_
  refine r_gP hK 3 1 4 31 rfl (by decide) ?_
  refine rn_eq (k_next hR hK hB hp) ?_
  refine rn_eq (tb_get (o := 31) (nc := 4) (c := 0) hK (by decide) hB.2.2.2.2.1 rfl gi rfl (by decide)) ?_
  have ev0 : vD R 0 (goI R p) = R (9642 + 3 * goI R p) := rfl
  rw [ev0, w2]
  refine rn_eq (tb_get (o := 4) (nc := 9) (c := 4) hK (by decide) hB.2.1 rfl gt rfl (by decide)) ?_
  have ev4 : vS R 4 (goS R p) = R (16 + 9 * goS R p + 4) := rfl
  rw [ev4]
  rcases (hR.2.2.1 _ gt).2.2.2.1 with e | e
  · rw [e]
    exact rn_t (by decide) ⟨0, rfl, rfl⟩
  · rw [e]
    exact rn_f (fun q => q rfl) ⟨1, rfl, rfl⟩
theorem k_clearSide (hK : KS sh z) (hw : OWS ow z) (hN : WN R) (hB : BK sh d z ow 3 R q) (ht : t < nn R 1) : Rn (f_X1_clearSide N sh (z + 3) (nI t) d) (fun d' => FD (IX z ow 4 5) d d' ∧ BK sh d' z ow 3 (clR R t) q) := by
  have ht4 : tck 4 9 = true := by decide
  have mo : ∀ {a b : Dt}, FD (TX z ow 4) a b → FD (IX z ow 4 5) a b := fun h => h.mono (fun a ha => tx_ix ht4 hw ha)
  unfold f_X1_clearSide
  refine rn_t (ks_o hK 3 1 rfl) ?_
  refine r_gP hK 3 1 1 4 rfl (by decide) ?_
  refine rn_eq (tb_get (o := 4) (nc := 9) (c := 3) hK ht4 hB.2.1 rfl ht rfl (by decide)) ?_
  have e3 : vS R 3 t = R (16 + 9 * t + 3) := rfl
  refine r_gP hK 3 1 1 4 rfl (by decide) ?_
  refine rn_eq (tb_get (o := 4) (nc := 9) (c := 2) hK ht4 hB.2.1 rfl ht rfl (by decide)) ?_
  have e2 : vS R 2 t = R (16 + 9 * t + 2) := rfl
  rw [e2, e3]
  have fin : ∀ d1, FD (IX z ow 4 5) d d1 → BK sh d1 z ow 3 (va_up R (16 + 9 * t + 2) (clN R t)) q → Rn (f_X1_clearSide_33 N sh (z + 3) (nI t) (R (16 + 9 * t + 3)) d1) (fun d' => FD (IX z ow 4 5) d d' ∧ BK sh d' z ow 3 (clR R t) q) := fun d1 hf hB1 => by
    have ht1 : t < nn (va_up R (16 + 9 * t + 2) (clN R t)) 1 := by rw [nn_up (by omega)]; exact ht
    unfold f_X1_clearSide_33 f_X1_clearSide_56
    refine r_gP hK 3 1 1 4 rfl (by decide) ?_
    refine rn_eq (tb_get (o := 4) (nc := 9) (c := 2) hK ht4 hB1.2.1 rfl ht1 rfl (by decide)) ?_
    have ev : vS (va_up R (16 + 9 * t + 2) (clN R t)) 2 t = clN R t := va_up_s
    rw [ev]
    refine rn_ite (fun h => ?_) (fun h => ?_)
    · refine rn_some ⟨hf, ?_⟩
      unfold clR
      rw [if_pos h, up_id (f := va_up R (16 + 9 * t + 2) (clN R t)) (va_up_n (by omega)).symm]
      exact hB1
    · refine r_gP hK 3 1 1 4 rfl (by decide) ?_
      refine rn_bind (tb_put (o := 4) (nc := 9) (c := 0) (v := 0) hK hw ht4 hB1.2.1 rfl ht1 rfl (by decide)) (fun d2 hd => rn_some ⟨hf.tr (mo hd.2), ?_⟩)
      unfold clR
      rw [if_neg h]
      exact bk_upS (Or.inl rfl) hK hw (wn_up hN (by omega)) hB1 ht1 (by decide) hd.1 hd.2
  refine rn_ite (fun h => ?_) (fun h => ?_)
  · refine fin d FD.rf ?_
    have e : clN R t = R (16 + 9 * t + 2) := by
      unfold clN
      rw [if_neg (Int32.not_lt.mpr h)]
      exact Int32.add_zero _
    rw [up_id e]
    exact hB
  · refine r_gP hK 3 1 1 4 rfl (by decide) ?_
    refine rn_bind (tb_raise (o := 4) (nc := 9) (c := 2) (v := 1) hK hw ht4 hB.2.1 rfl ht rfl (by decide)) (fun d1 hd => ?_)
    refine fin d1 (mo hd.2) ?_
    have e : clN R t = vS R 2 t + 1 := by
      unfold clN
      rw [if_pos (Int32.not_le.mp h)]
      rfl
    rw [e]
    exact bk_upS (Or.inl rfl) hK hw hN hB ht (by decide) hd.1 hd.2
def go4 (R : Nat → Int32) (p : Nat) (a b x e : Int32) : Nat → Int32 := va_up (va_up (va_up (va_up R (9426 + 13 * p + 11) a) (9426 + 13 * p + 9) b) (9426 + 13 * p + 12) x) (9426 + 13 * p + 8) e
theorem go4_vP {a b x e : Int32} {c i : Nat} (hc : c < 9) : vP (go4 R p a b x e) c i = if c = 8 ∧ i = p then x else if c = 7 ∧ i = p then a else if c = 3 ∧ i = p then b else if c = 2 ∧ i = p then e else vP R c i := by
  have e11 : go4 R p a b x e (9426 + 13 * p + 11) = a := by unfold go4; rw [va_up_n (by omega), va_up_n (by omega), va_up_n (by omega), va_up_s]
  have e9 : go4 R p a b x e (9426 + 13 * p + 9) = b := by unfold go4; rw [va_up_n (by omega), va_up_n (by omega), va_up_s]
  have e12 : go4 R p a b x e (9426 + 13 * p + 12) = x := by unfold go4; rw [va_up_n (by omega), va_up_s]
  have e8 : go4 R p a b x e (9426 + 13 * p + 8) = e := by unfold go4; rw [va_up_s]
  have en : ∀ j, (j < 9426 + 13 * p + 8 ∨ j = 9426 + 13 * p + 10 ∨ 9426 + 13 * p + 13 ≤ j) → go4 R p a b x e j = R j := fun j hj => by
    unfold go4
    rw [va_up_n (by omega), va_up_n (by omega), va_up_n (by omega), va_up_n (by omega)]
  by_cases hi : i = p
  · subst hi
    have hc9 : c = 0 ∨ c = 1 ∨ c = 2 ∨ c = 3 ∨ c = 4 ∨ c = 5 ∨ c = 6 ∨ c = 7 ∨ c = 8 := by omega
    rcases hc9 with rfl | rfl | rfl | rfl | rfl | rfl | rfl | rfl | rfl
    · simp only [show ¬ (0 : Nat) = 8 by decide, show ¬ (0 : Nat) = 7 by decide, show ¬ (0 : Nat) = 3 by decide, show ¬ (0 : Nat) = 2 by decide, false_and, if_false]
      exact en _ (by omega)
    · simp only [show ¬ (1 : Nat) = 8 by decide, show ¬ (1 : Nat) = 7 by decide, show ¬ (1 : Nat) = 3 by decide, show ¬ (1 : Nat) = 2 by decide, false_and, if_false]
      exact en _ (by omega)
    · simp only [show ¬ (2 : Nat) = 8 by decide, show ¬ (2 : Nat) = 7 by decide, show ¬ (2 : Nat) = 3 by decide, false_and, if_false, true_and, if_true]
      exact e8
    · simp only [show ¬ (3 : Nat) = 8 by decide, show ¬ (3 : Nat) = 7 by decide, false_and, if_false, true_and, if_true]
      exact e9
    · simp only [show ¬ (4 : Nat) = 8 by decide, show ¬ (4 : Nat) = 7 by decide, show ¬ (4 : Nat) = 3 by decide, show ¬ (4 : Nat) = 2 by decide, false_and, if_false]
      exact en _ (by omega)
    · simp only [show ¬ (5 : Nat) = 8 by decide, show ¬ (5 : Nat) = 7 by decide, show ¬ (5 : Nat) = 3 by decide, show ¬ (5 : Nat) = 2 by decide, false_and, if_false]
      exact en _ (by omega)
    · simp only [show ¬ (6 : Nat) = 8 by decide, show ¬ (6 : Nat) = 7 by decide, show ¬ (6 : Nat) = 3 by decide, show ¬ (6 : Nat) = 2 by decide, false_and, if_false]
      show (if go4 R i a b x e (9426 + 13 * i + 2) = 1 then -1 else go4 R i a b x e (9426 + 13 * i)) = (if R (9426 + 13 * i + 2) = 1 then -1 else R (9426 + 13 * i))
      rw [en _ (by omega), en _ (by omega)]
    · simp only [show ¬ (7 : Nat) = 8 by decide, false_and, if_false, true_and, if_true]
      exact e11
    · simp only [true_and, if_true]
      exact e12
  · rw [if_neg (fun q => hi q.2), if_neg (fun q => hi q.2), if_neg (fun q => hi q.2), if_neg (fun q => hi q.2)]
    have h : ∀ t, t < 13 → go4 R p a b x e (9426 + 13 * i + t) = R (9426 + 13 * i + t) := fun t ht => en _ (by omega)
    unfold vP
    simp only [h 6 (by omega), h 7 (by omega), h 8 (by omega), h 9 (by omega), h 10 (by omega), h 1 (by omega), h 2 (by omega), show go4 R p a b x e (9426 + 13 * i) = R (9426 + 13 * i) from h 0 (by omega), h 11 (by omega), h 12 (by omega)]
theorem tb_raiseW {row col v w : Int32} {i c o nc S : Nat} {V : Nat → Nat → Int32} {L : Nat → Nat} (h : KS sh z) (hw : OWS ow z) (hk : tck o nc = true) (ht : TB sh d z ow o nc S V L) (hr : row = nI i) (hi : i < S) (hl : col = nI c) (hc : c < nc) (hv : V c i + v = w) : Rn (f_X8_raise N sh (z + o) row col v d) (fun d' => TB sh d' z ow o nc S (fun c' i' => if c' = c ∧ i' = i then w else V c' i') L ∧ FD (TX z ow o) d d') := by
  subst hv
  exact tb_raise h hw hk ht hr hi hl hc
theorem k_driveNext (hR : WF R) (hK : KS sh z) (hw : OWS ow z) (hB : BK sh d z ow 3 R q) (hP : PB sh d z ow R) (hp : p < nn R 3) (hg : nn R (9426 + 13 * p + 8) < nn R (9426 + 13 * p + 7)) : Rn (f_X11_driveNext N sh z (nI p) d) (fun d' => FD (IX z ow 1 39) d d' ∧ BK sh d' z ow 3 (goP R p) q) := by
  have hN := hR.1
  have n1 := hN.2.1.2
  have n3 := hN.2.2.2.1.2
  have n4 := hN.2.2.2.2.2
  have hW := wpk_of hR
  obtain ⟨gi, gt⟩ := goS_lt hR hp hg
  obtain ⟨a1, a2, a3, a4, a5⟩ := wp_prt hR hp
  obtain ⟨w1, w2, w3⟩ := wd_at hR gi
  obtain ⟨-, ⟨l1, l2, l3⟩, -⟩ := hR.2.2.1 _ gt
  have sb := psN_le (R := R) (p := p) (i := goI R p)
  have tb := tkR_b (R := R) (p := p) l3
  have e1 : R (9642 + 3 * goI R p + 2) = 1 → psN R p (goI R p) = (psR R p (R (16 + 9 * goS R p + 0))).toNatClampNeg := fun q => if_pos q
  have ec : ∀ j, (∀ t, t < 150 → j ≠ 16 + 9 * t + 2 ∧ j ≠ 16 + 9 * t) → goC R p j = R j := fun j hj => goC_n hj (by omega)
  have e3 : nn (goC R p) 3 = nn R 3 := nn_eq (ec 3 (fun t _ => by omega))
  have ht20 : tck 20 9 = true := by decide
  have mo : ∀ {a b : Dt}, FD (TX z ow 20) a b → FD (IX z ow 1 39) a b := fun h => h.mono (fun a ha => ix_mono (tx_ix ht20 hw ha) (by omega) (by omega))
  have lg : ∀ {a b : Dt}, LG z a b → FD (IX z ow 1 39) a b := fun h => (h.ix hw).mono (fun a ha => ix_mono ha (by omega) (by omega))
  /- the PLOUGH's row -/
  have last : ∀ d1, FD (IX z ow 1 39) d d1 → BK sh d1 z ow 3 (goC R p) q → Rn (f_X11_driveNext_138 N sh z (nI p) (nI (psN R p (goI R p))) (nI (max 1 (psN R p (goI R p)) * tkR R p (sln R (goS R p)))) d1) (fun d' => FD (IX z ow 1 39) d d' ∧ BK sh d' z ow 3 (goP R p) q) := fun d1 hf hB1 => by
    have hp1 : p < nn (goC R p) 3 := by rw [e3]; exact hp
    unfold f_X11_driveNext_138
    refine r_now hK 3 20 (by decide) ?_
    have v2 : vP (goC R p) 2 p + 1 = R (9426 + 13 * p + 8) + 1 := by rw [show vP (goC R p) 2 p = R (9426 + 13 * p + 8) from ec _ (fun t _ => by omega)]
    refine rn_bind (tb_raiseW (o := 20) (nc := 9) (c := 2) (v := 1) hK hw ht20 hB1.2.2.2.1 rfl hp1 rfl (by decide) v2) (fun d2 hd2 => ?_)
    have t2 := hd2.1
    refine r_now hK 3 20 (by decide) ?_
    have v3 : (if 3 = 2 ∧ p = p then R (9426 + 13 * p + 8) + 1 else vP (goC R p) 3 p) + nI (max 1 (psN R p (goI R p)) * tkR R p (sln R (goS R p))) = goM R p := by
      rw [if_neg (show ¬ (3 = 2 ∧ p = p) from fun q => absurd q.1 (by decide)), show vP (goC R p) 3 p = R (9426 + 13 * p + 9) from ec _ (fun t _ => by omega)]
      rfl
    refine rn_bind (tb_raiseW (o := 20) (nc := 9) (c := 3) (v := nI (max 1 (psN R p (goI R p)) * tkR R p (sln R (goS R p)))) hK hw ht20 t2 rfl hp1 rfl (by decide) v3) (fun d3 hd3 => ?_)
    have t3 := hd3.1
    refine r_now hK 3 20 (by decide) ?_
    have stp : ∀ o, o = (if 1 < psN R p (goI R p) then (1 : Int32) else 0) → Rn (f_X11_driveNext_186 N sh z (nI p) (z + 20) (nI p) (7 : Int32) o d3) (fun d' => FD (IX z ow 1 39) d d' ∧ BK sh d' z ow 3 (goP R p) q) := fun o ho => by
      unfold f_X11_driveNext_186
      have v7 : (if 7 = 3 ∧ p = p then goM R p else if 7 = 2 ∧ p = p then R (9426 + 13 * p + 8) + 1 else vP (goC R p) 7 p) + o = R (9426 + 13 * p + 11) + o := by
        rw [if_neg (show ¬ (7 = 3 ∧ p = p) from fun q => absurd q.1 (by decide)), if_neg (show ¬ (7 = 2 ∧ p = p) from fun q => absurd q.1 (by decide)), show vP (goC R p) 7 p = R (9426 + 13 * p + 11) from ec _ (fun t _ => by omega)]
      refine rn_bind (tb_raiseW (o := 20) (nc := 9) (c := 7) (v := o) hK hw ht20 t3 rfl hp1 rfl (by decide) v7) (fun d4 hd4 => ?_)
      have t4 := hd4.1
      refine r_now hK 3 20 (by decide) ?_
      refine rn_eq (tb_get (o := 20) (nc := 9) (c := 3) hK ht20 t4 rfl hp1 rfl (by decide)) ?_
      refine r_now hK 3 20 (by decide) ?_
      refine rn_eq (tb_get (o := 20) (nc := 9) (c := 5) hK ht20 t4 rfl hp1 rfl (by decide)) ?_
      have g3 : (if 3 = 7 ∧ p = p then R (9426 + 13 * p + 11) + o else if 3 = 3 ∧ p = p then goM R p else if 3 = 2 ∧ p = p then R (9426 + 13 * p + 8) + 1 else vP (goC R p) 3 p) = goM R p := by
        rw [if_neg (show ¬ (3 = 7 ∧ p = p) from fun q => absurd q.1 (by decide)), if_pos (show 3 = 3 ∧ p = p from ⟨rfl, rfl⟩)]
      have g5 : (if 5 = 7 ∧ p = p then R (9426 + 13 * p + 11) + o else if 5 = 3 ∧ p = p then goM R p else if 5 = 2 ∧ p = p then R (9426 + 13 * p + 8) + 1 else vP (goC R p) 5 p) = R (9426 + 13 * p + 1) := by
        rw [if_neg (show ¬ (5 = 7 ∧ p = p) from fun q => absurd q.1 (by decide)), if_neg (show ¬ (5 = 3 ∧ p = p) from fun q => absurd q.1 (by decide)), if_neg (show ¬ (5 = 2 ∧ p = p) from fun q => absurd q.1 (by decide))]
        exact ec _ (fun t _ => by omega)
      rw [g3, g5]
      have fin : ∀ o2, o2 = (if goM R p ≤ R (9426 + 13 * p + 1) then (0 : Int32) else 1) → Rn ((f_X8_raise N sh (z + 20) (nI p) (8 : Int32) o2 d4).bind fun v42 => some v42) (fun d' => FD (IX z ow 1 39) d d' ∧ BK sh d' z ow 3 (goP R p) q) := fun o2 ho2 => by
        have v8 : (if 8 = 7 ∧ p = p then R (9426 + 13 * p + 11) + o else if 8 = 3 ∧ p = p then goM R p else if 8 = 2 ∧ p = p then R (9426 + 13 * p + 8) + 1 else vP (goC R p) 8 p) + o2 = R (9426 + 13 * p + 12) + o2 := by
          rw [if_neg (show ¬ (8 = 7 ∧ p = p) from fun q => absurd q.1 (by decide)), if_neg (show ¬ (8 = 3 ∧ p = p) from fun q => absurd q.1 (by decide)), if_neg (show ¬ (8 = 2 ∧ p = p) from fun q => absurd q.1 (by decide)), show vP (goC R p) 8 p = R (9426 + 13 * p + 12) from ec _ (fun t _ => by omega)]
        refine rn_bind (tb_raiseW (o := 20) (nc := 9) (c := 8) (v := o2) hK hw ht20 t4 rfl hp1 rfl (by decide) v8) (fun d5 hd5 => rn_some ?_)
        have t5 := hd5.1
        refine ⟨hf.tr ((mo hd2.2).tr ((mo hd3.2).tr ((mo hd4.2).tr (mo hd5.2)))), ?_⟩
        have es : ES (IX z ow 20 21) (sh, d1) ow (sh, d5) ow := FD.es (sh := sh) (d := d1) ((((hd2.2.tr hd3.2).tr hd4.2).tr hd5.2).mono (fun a ha => tx_ix ht20 hw ha))
        have eg : goP R p = go4 (goC R p) p (R (9426 + 13 * p + 11) + o) (goM R p) (R (9426 + 13 * p + 12) + o2) (R (9426 + 13 * p + 8) + 1) := by
          rw [ho, ho2]
          rfl
        rw [eg]
        refine bk_P (s := (sh, d1)) (s' := (sh, d5)) (q := q) (L' := q.2.2.1) (wdn_of (goC_wf hR hp hg)) (Or.inl rfl) hK hw hB1 es ?_ hB1.2.2.2.2.2.2.2.2.2.1 (fun k _ hk => by
          unfold go4
          rw [va_up_n (by omega), va_up_n (by omega), va_up_n (by omega), va_up_n (by omega)])
        have e4 : nn (go4 (goC R p) p (R (9426 + 13 * p + 11) + o) (goM R p) (R (9426 + 13 * p + 12) + o2) (R (9426 + 13 * p + 8) + 1)) 3 = nn (goC R p) 3 := nn_eq (by
          unfold go4
          rw [va_up_n (by omega), va_up_n (by omega), va_up_n (by omega), va_up_n (by omega)])
        rw [e4]
        exact tb_congr t5 (fun c9 i9 hc _ => go4_vP hc)
      unfold f_X11_driveNext_221 f_X11_driveNext_243
      refine rn_ite (fun h => ?_) (fun h => ?_)
      · refine r_now hK 3 20 (by decide) ?_
        exact rn_t rfl (fin 0 (if_pos h).symm)
      · refine r_now hK 3 20 (by decide) ?_
        exact rn_f (by decide) (fin 1 (if_neg h).symm)
    refine rn_ite (fun h5 => stp 0 ?_) (fun h5 => stp 1 ?_)
    · have := (nI_leI (b := 1) (by omega) (by decide)).mp h5
      rw [if_neg (by omega)]
    · have : ¬ psN R p (goI R p) ≤ 1 := fun q => h5 (nI_le (b := 1) q (by decide))
      rw [if_pos (by omega)]
  unfold f_X11_driveNext
  refine rn_t (ks_o hK 0 11 rfl) ?_
  rw [← z0 (z := z)]
  refine r_gP hK 0 11 1 3 rfl (by decide) ?_
  refine rn_eq (k_next hR hK hB hp) ?_
  rw [z0 (z := z)]
  refine r_now hK 4 31 (by decide) ?_
  refine rn_eq (tb_get (o := 31) (nc := 4) (c := 0) hK (by decide) hB.2.2.2.2.1 rfl gi rfl (by decide)) ?_
  have ev0 : vD R 0 (goI R p) = R (9642 + 3 * goI R p) := rfl
  rw [ev0, w2]
  refine r_now hK 4 31 (by decide) ?_
  refine rn_eq (tb_get (o := 31) (nc := 4) (c := 3) hK (by decide) hB.2.2.2.2.1 rfl gi rfl (by decide)) ?_
  have ev3 : vD R 3 (goI R p) = R (9642 + 3 * goI R p + 2) := rfl
  rw [ev3]
  have mid : ∀ (l4 : Int32) d1, LG z d d1 → (l4 = 0 ↔ R (9642 + 3 * goI R p + 2) ≠ 1) → Rn (f_X11_driveNext_75 N sh z (nI p) (nI (goS R p)) l4 (nI (psN R p (goI R p))) d1) (fun d' => FD (IX z ow 1 39) d d' ∧ BK sh d' z ow 3 (goP R p) q) := fun l4 d1 hl h4 => by
    have hB1 := bk_lg hK hw hB hl
    have hP1 := pb_lg hK hw hP hl
    obtain ⟨a, b1, -, -, b4⟩ := k_body hK hP1 hp hN
    unfold f_X11_driveNext_75
    rw [← z0 (z := z)]
    refine r_gP hK 0 11 6 235 rfl (by decide) ?_
    refine rn_eq b1 ?_
    rw [z0 (z := z)]
    refine r_now hK 1 4 (by decide) ?_
    refine rn_eq (tb_get (o := 4) (nc := 9) (c := 6) hK (by decide) hB1.2.1 rfl gt rfl (by decide)) ?_
    have ev : vS R 6 (goS R p) = nI (sln R (goS R p)) := l1
    rw [ev]
    refine rn_bind (k_takes hK hW hp b4 l3 l2) (fun r hr => ?_)
    have hl2 := hl.tr hr.2
    have hB2 := bk_lg hK hw hB hl2
    have em : o_max (1 : Int32) (nI (psN R p (goI R p))) * r.1 = nI (max 1 (psN R p (goI R p)) * tkR R p (sln R (goS R p))) := by
      rw [hr.1, show (1 : Int32) = nI 1 from rfl, o_max_nI (by decide) (by omega), pk_mul]
    rw [em]
    by_cases h0 : psN R p (goI R p) = 0
    · refine rn_f (fun q => q (by rw [h0]; rfl)) ?_
      rw [← z0 (z := z)]
      refine r_gP hK 0 11 0 1 rfl (by decide) ?_
      refine rn_bind (k_find hK) (fun d3 hd3 => ?_)
      rw [z0 (z := z)]
      have eC : goC R p = R := if_neg (fun q => q.2 h0)
      refine last d3 (lg (hl2.tr hd3)) ?_
      rw [eC]
      exact bk_lg hK hw hB2 hd3
    · refine rn_t (nI_ne0 (by omega) (by omega)) ?_
      refine rn_ite (fun h5 => ?_) (fun h5 => ?_)
      · have eC : goC R p = R := if_neg (fun q => (h4.mp h5) q.1)
        refine last r.2 (lg hl2) ?_
        rw [eC]
        exact hB2
      · have hc1 : R (9642 + 3 * goI R p + 2) = 1 := Decidable.of_not_not (fun q => h5 (h4.mpr q))
        have eC : goC R p = clR R (goS R p) := if_pos ⟨hc1, h0⟩
        rw [← z0 (z := z)]
        refine r_gP hK 0 11 1 3 rfl (by decide) ?_
        refine rn_bind (k_clearSide hK hw hN hB2 gt) (fun d3 hd3 => ?_)
        rw [z0 (z := z)]
        refine last d3 ((lg hl2).tr (hd3.1.mono (fun a ha => ix_mono ha (by omega) (by omega)))) ?_
        rw [eC]
        exact hd3.2
  unfold f_X11_driveNext_43
  refine rn_ite (fun h1 => ?_) (fun h1 => ?_)
  · refine rn_t rfl ?_
    have ep : psN R p (goI R p) = 1 := if_neg h1
    have := mid 0 d LG.rf ⟨fun _ => h1, fun _ => rfl⟩
    rw [ep] at this
    exact this
  · have h1 := Decidable.of_not_not h1
    refine rn_f (by decide) ?_
    obtain ⟨a, b1, -, -, b4⟩ := k_body hK hP hp hN
    rw [← z0 (z := z)]
    refine r_gP hK 0 11 6 235 rfl (by decide) ?_
    refine rn_eq b1 ?_
    rw [z0 (z := z)]
    refine r_now hK 1 4 (by decide) ?_
    refine rn_eq (tb_get (o := 4) (nc := 9) (c := 0) hK (by decide) hB.2.1 rfl gt rfl (by decide)) ?_
    have ev : vS R 0 (goS R p) = R (16 + 9 * goS R p + 0) := rfl
    rw [ev]
    refine rn_bind (k_passes hK hW hp b4) (fun r hr => ?_)
    have e2 := psR_nI (R := R) (p := p) (v := R (16 + 9 * goS R p + 0))
    rw [← e1 h1] at e2
    rw [hr.1, e2]
    exact mid 1 r.2 hr.2 ⟨fun q => absurd q (by decide), fun q => absurd h1 q⟩
theorem kgo_loop (hR : WF R) (hp : p < nn R 3) (h0 : gst R p) (hn1 : 1 ≤ n) (hn : n ≤ 50) : ∀ (m k fu : Nat) (d : Dt), k + m = n → m < fu → gok R p k → RFR z s0 (s1.1, d) → CJ (s1.1, d) z ow R yy c (pot q) → BK s1.1 d z ow 3 (goF R p k) q → PB s1.1 d z ow (goF R p k) → Rn (f_X11_go_104 N fu z (nI p) (nI n) (nI k) (s1.1, d)) (KO z R K u c (goO R p (goN R p m k)) s0)
  | m, k, fu, d, hk, hf, ho, hF, hJ, hB, hP => by
    obtain ⟨fu, rfl⟩ : ∃ q, fu = q + 1 := ⟨fu - 1, by omega⟩
    have n3 := hR.1.2.2.2.1.2
    obtain ⟨hw9, e3⟩ := goF_ok hR hp k ho
    have hp2 : p < nn (goF R p k) 3 := by rw [e3]; exact hp
    have hK : KS s1.1 z := hJ.1
    have hw := hJ.2.1
    have fin : ∀ d1, LG z d d1 → k ≠ 0 → Rn (f_X11_go_158 N z (nI k) (s1.1, d1)) (KO z R K u c (goO R p k) s0) := fun d1 hl hk0 => by
      unfold f_X11_go_158
      have c1 := cj_ci hJ hB hP
      have q1 := ci_lg (s := (s1.1, d)) c1 hl
      refine rn_bind (k_answer hK) (fun r hr => rn_some ?_)
      have q2 := ci_lg (s := (s1.1, d1)) q1.1 hr.2
      refine ⟨hr.1, (hF.tr q1.2).tr q2.2, ow, (q, yy), ?_⟩
      unfold goO
      simp only [if_neg hk0]
      exact q2.1
    show Rn (g_X11_go_104 N (f_X11_go_104 N fu) z (nI p) (nI n) (nI k) (s1.1, d)) _
    unfold g_X11_go_104
    cases m with
    | zero =>
      refine rn_t (nI_le (by omega) (by omega)) ?_
      exact fin d LG.rf (by omega)
    | succ m =>
      refine rn_f (nI_ge (by omega) (by omega)) ?_
      rw [← z0 (z := z)]
      refine r_gP hK 0 11 1 3 rfl (by decide) ?_
      refine rn_eq (k_left hw9 hK hB hp2) ?_
      by_cases hg1 : nn (goF R p k) (9426 + 13 * p + 8) < nn (goF R p k) (9426 + 13 * p + 7)
      · rw [if_pos hg1]
        refine rn_f (by decide) ?_
        refine r_gP hK 0 11 0 1 rfl (by decide) ?_
        refine r_gI hK (i := 1) (c := 2) rfl ?_
        refine r_pI hK (i := 1) (c := 2) rfl ?_
        have hl : LG z d (wI d (z + 1) 3 (d.1 (z + 1) 3 + 1)) := LG.w1
        have hB1 := bk_lg hK hw hB hl
        have hP1 := pb_lg hK hw hP hl
        refine r_gP hK 0 11 1 3 rfl (by decide) ?_
        refine rn_eq (k_nshut hw9 hK hB1 hp2 hg1) ?_
        rw [z0 (z := z)]
        by_cases h2 : goF R p k (16 + 9 * goS (goF R p k) p + 4) = 0
        · have hg : gst (goF R p k) p := ⟨hg1, h2⟩
          rw [if_pos h2, show goN R p (m + 1) k = goN R p m (k + 1) from if_pos hg]
          refine rn_t rfl ?_
          refine rn_bind (k_driveNext hw9 hK hw hB1 hP1 hp2 hg1) (fun d3 hd3 => ?_)
          rw [nI_1]
          have fd : FD (IX z ow 1 39) d d3 := ((hl.ix hw).mono (fun a ha => ix_mono ha (by omega) (by omega))).tr hd3.1
          have es : ES (IX z ow 1 39) (s1.1, d) ow (s1.1, d3) ow := FD.es (sh := s1.1) (d := d) fd
          have j2 := cj_es (c' := c) (P' := pot q) hJ es (by omega) (Nat.le_refl _) (Nat.le_refl _)
          have gs := (goS_lt hw9 hp2 hg1).2
          have n1 := hw9.1.2.1.2
          have pk := pb_ix (s := (s1.1, d)) (s' := (s1.1, d3)) hP hK hw es (by omega) (by omega)
          refine kgo_loop hR hp h0 hn1 hn m (k + 1) fu d3 (by omega) (by omega) (gok_s ho hg) (hF.tr j2.2) j2.1 hd3.2 ?_
          refine pb_cg2 pk (nn_eq (goP_n (fun t _ => by omega) (by omega) (by omega))) (fun p' x hx => ?_)
          show goP (goF R p k) p (9426 + 13 * p' + x) = _
          unfold goP
          rw [va_up_n (by omega), va_up_n (by omega), va_up_n (by omega), va_up_n (by omega)]
          exact goC_n (fun t _ => by omega) (by omega)
        · rw [if_neg h2, show goN R p (m + 1) k = k from if_neg (fun q => h2 q.2)]
          refine rn_f (by decide) ?_
          unfold f_X11_go_144
          exact fin _ hl (fun e => by subst e; exact h2 h0.2)
      · rw [if_neg hg1, show goN R p (m + 1) k = k from if_neg (fun q => hg1 q.1)]
        refine rn_t rfl ?_
        rw [z0 (z := z)]
        exact fin d LG.rf (fun e => by subst e; exact hg1 h0.1)
theorem k_go {x w : Int32} (hNf : 300 ≤ N) (h : CI s z ow R K u y c) (hR : WF R) (hKF : WF K) : Rn (f_X11_go N z x w s) (KO z R K u c (sp_go R x w) s) := by
  have hK := h.1
  have hN := hR.1
  have n3 := hN.2.2.2.1.2
  have hB : BK s.1 s.2 z ow 3 R y.1 := h.2.2.1
  have bad : (x < 0 ∨ nI (nn R 3) ≤ x) ∨ (w < 1 ∨ 50 < w) → Rn (f_X11_go_25 N z s) (KO z R K u c (sp_go R x w) s) := fun hb => by
    rw [show sp_go R x w = _ from if_pos hb]
    unfold f_X11_go_25
    refine rn_bind (k_refuse hK) (fun r hr => rn_some ?_)
    exact ko_lg h hr rfl
  unfold f_X11_go
  refine rn_t (ks_o hK 0 11 rfl) ?_
  refine r_now hK 3 20 (by decide) ?_
  refine rn_eq (tb_has (o := 20) (nc := 9) hK (by decide) hB.2.2.2.1) ?_
  refine rn_ite (fun h1 => bad (Or.inl (ite01.mp h1))) (fun h1 => ?_)
  refine rn_ite (fun h2 => bad (Or.inr (Or.inl h2))) (fun h2 => ?_)
  refine rn_ite (fun h5 => ?_) (fun h5 => bad (Or.inr (Or.inr (Int32.not_le.mp h5))))
  have h1 : ¬ (x < 0 ∨ nI (nn R 3) ≤ x) := fun q => h1 (ite01.mpr q)
  have hw : ¬ (w < 1 ∨ 50 < w) := fun q => q.elim h2 (fun q => Int32.not_le.mpr q h5)
  rw [show sp_go R x w = _ from if_neg (fun q => q.elim h1 hw)]
  obtain ⟨p, hp, rfl, e1⟩ := st_of (by omega) h1
  obtain ⟨n, hn, rfl, e2⟩ := st_of (x := w) (n := 51) (by decide) (fun q => q.elim (fun q => hw (Or.inl (Int32.lt_of_lt_of_le q (by decide)))) (fun q => hw (Or.inr ((lt_pred (n := 51) (by decide)).mpr q))))
  have hn1 : 1 ≤ n := by
    rcases Nat.eq_zero_or_pos n with e | e
    · subst e
      exact absurd (show nI 0 < 1 by decide) h2
    · exact e
  rw [e1, e2]
  refine r_gP hK 0 11 1 3 rfl (by decide) ?_
  refine rn_eq (k_isOut (Or.inl rfl) hR hK hB.2.2.2.1 hp) ?_
  by_cases h3 : R (9426 + 13 * p + 2) = 1
  · rw [if_pos h3, if_pos h3]
    refine rn_f (by decide) ?_
    refine rn_bind (k_refuse hK) (fun r hr => rn_some ?_)
    exact ko_lg h hr rfl
  rw [if_neg h3, if_neg h3]
  refine rn_t rfl ?_
  refine r_gP hK 0 11 1 3 rfl (by decide) ?_
  refine rn_eq (k_left hR hK hB hp) ?_
  by_cases h4 : nn R (9426 + 13 * p + 8) < nn R (9426 + 13 * p + 7)
  · rw [if_pos h4, if_pos h4]
    refine rn_t (by decide) ?_
    refine r_gP hK 0 11 1 3 rfl (by decide) ?_
    refine rn_eq (k_nshut hR hK hB hp h4) ?_
    by_cases h6 : R (16 + 9 * goS R p + 4) = 0
    · rw [if_pos h6]
      refine rn_t rfl ?_
      refine rn_bind (ci_change (by omega) h hR.1 hR.2.1 hKF.1) (fun s1 hs => ?_)
      obtain ⟨f1, g1, g2, g3, ow1, y1, -, c1⟩ := hs
      unfold f_X11_go_102
      exact kgo_loop (s1 := s1) hR hp ⟨h4, h6⟩ hn1 (by omega) n 0 N s1.2 (by omega) (by omega) (fun j hj => absurd hj (Nat.not_lt_zero j)) f1 (cj_of c1 g1 g2 g3) c1.2.2.1 c1.2.2.2.2.2.1
    · rw [if_neg h6]
      refine rn_f (by decide) ?_
      obtain ⟨m, rfl⟩ : ∃ m, n = m + 1 := ⟨n - 1, by omega⟩
      have e0 : goN R p (m + 1) 0 = 0 := if_neg (fun q => h6 q.2)
      rw [e0]
      refine r_gP hK 0 11 0 1 rfl (by decide) ?_
      refine r_gI hK (i := 1) (c := 2) rfl ?_
      refine r_pI hK (i := 1) (c := 2) rfl ?_
      have hl : LG z s.2 (wI s.2 (z + 1) 3 (s.2.1 (z + 1) 3 + 1)) := LG.w1
      refine rn_bind (k_answer hK) (fun r hr => rn_some ?_)
      exact ko_lg h ⟨hr.1, hl.tr hr.2⟩ rfl
  · rw [if_neg h4, if_neg h4]
    refine rn_f (fun q => q rfl) ?_
    refine rn_bind (k_refuse hK) (fun r hr => rn_some ?_)
    exact ko_lg h hr rfl
end GOK
