/-! snow() of the reference -/
section SNR
variable {s s' : AS} {sh : Sh} {d d' d0 : Dt} {z : Nat} {ow ow' : Nat → Nat} {R R' Rc K : Nat → Int32} {u : Bool} {y : YL} {c N g t hh : Nat} {q q' : BL}
/-- what the gauges told -/
def TLD (d : Dt) (z : Nat) (R : Nat → Int32) (hh n : Nat) : Prop := ∀ g, g < n → d.1 (z + 249) g = (if tl R hh g then 1 else 0) ∧ (tl R hh g → d.2.2.1 (z + 250) g = gx R g hh)
theorem snA_s0 (h : ¬ tl R hh g) : snA R hh t (g + 1) = snA R hh t g := if_neg h
theorem snA_s1 (h : tl R hh g) (h2 : kn R g t = 0) : snA R hh t (g + 1) = snA R hh t g := (if_pos h).trans (if_pos h2)
theorem snA_s2 (h : tl R hh g) (h2 : kn R g t ≠ 0) : snA R hh t (g + 1) = (FP.fadd (snA R hh t g).1 (FP.fmul (gx R g hh) (wt (kn R g t))), (snA R hh t g).2 + kn R g t) := (if_pos h).trans (if_neg h2)
theorem msn_loop {Q : Int32 × Dt → Prop} (hN1 : 200 ≤ N) (hK : KS sh z) (hN : WN R) (ht : t < nn R 1) (hS : smp R Rc) (hA : AG (d.1 (z + 243)) Rc) (hT : TLD d z R hh (nn R 2)) (hk : Rn (f_X12_snows_81 N sh (z + 242) (nI t) (snA R hh t (nn R 2)).1 (wt (snA R hh t (nn R 2)).2) d) Q) : ∀ (m g fu : Nat), g + m = nn R 2 → m < fu → Rn (f_X12_snows_7 N sh fu (z + 242) (nI t) (snA R hh t g).1 (wt (snA R hh t g).2) (nI g) d) Q
  | 0, g, fu, hg, hf => by
    obtain ⟨fu, rfl⟩ : ∃ q, fu = q + 1 := ⟨fu - 1, by omega⟩
    show Rn (g_X12_snows_7 N sh (f_X12_snows_7 N sh fu) (z + 242) (nI t) (snA R hh t g).1 (wt (snA R hh t g).2) (nI g) d) _
    have n2 := hN.2.2.1
    unfold g_X12_snows_7
    refine rdg hK hA 2 rfl (by decide) ?_
    rw [hS 2 (fun t' _ => by omega), n2.1]
    refine rn_t (nI_le (by omega) (by omega)) ?_
    have e : g = nn R 2 := by omega
    subst e
    exact hk
  | m + 1, g, fu, hg, hf => by
    obtain ⟨fu, rfl⟩ : ∃ q, fu = q + 1 := ⟨fu - 1, by omega⟩
    have ih := msn_loop hN1 hK hN ht hS hA hT hk m (g + 1) fu
    show Rn (g_X12_snows_7 N sh (f_X12_snows_7 N sh fu) (z + 242) (nI t) (snA R hh t g).1 (wt (snA R hh t g).2) (nI g) d) _
    have n1 := hN.2.1.2
    have n2 := hN.2.2.1
    obtain ⟨t1, t2⟩ := hT g (by omega)
    unfold g_X12_snows_7 f_X12_snows_48 f_X12_snows_75
    refine rdg hK hA 2 rfl (by decide) ?_
    rw [hS 2 (fun t' _ => by omega), n2.1]
    refine rn_f (nI_ge (by omega) (by omega)) ?_
    refine r_gP hK 242 12 12 249 rfl (by decide) ?_
    refine rn_eq (q_aT (ks_a hK 249 4 20 rfl) g rfl (by omega) (by decide)) ?_
    rw [t1, nI_1]
    by_cases h : tl R hh g
    · rw [if_pos h]
      refine rn_f (by decide) ?_
      refine r_gP hK 242 12 0 243 rfl (by decide) ?_
      refine rn_eq (m_ga hK) ?_
      refine rn_eq (q_aT (ks_a hK 243 0 15642 rfl) (1366 + 3 * g) (ix_ga0 g) (by omega) (by decide)) ?_
      rw [hA _ (by omega)]
      have hNc : nn Rc 1 = nn R 1 := hS.cn (fun t' _ => by omega)
      have hWc : WN Rc := by
        have e : ∀ j, j < 5 → Rc j = R j := fun j hj => hS j (fun t' _ => by omega)
        have en : ∀ j, j < 5 → nn Rc j = nn R j := fun j hj => by unfold nn; rw [e j hj]
        unfold WN
        rw [e 0 (by omega), e 1 (by omega), e 2 (by omega), e 3 (by omega), e 4 (by omega), en 0 (by omega), en 1 (by omega), en 2 (by omega), en 3 (by omega), en 4 (by omega)]
        exact hN
      refine rn_eq (m_near hN1 hK hWc hA (by omega)) ?_
      rw [kn_smp hS]
      have k2 := kn_le (R := R) (g := g) (t := t)
      have sn := snA_n (R := R) (hh := hh) (t := t) g
      by_cases h0 : kn R g t = 0
      · refine rn_t (by rw [h0]; decide) ?_
        rw [← snA_s1 h h0]
        exact ih (by omega) (by omega)
      · refine rn_f (nI_nle (by omega) (by omega)) ?_
        refine r_gP hK 242 12 13 250 rfl (by decide) ?_
        refine rn_eq (q_aF (ks_a hK 250 2 20 rfl) g rfl (by omega) (by decide)) ?_
        rw [t2 h]
        refine rn_eq (v := FP.fmul (gx R g hh) (wt (kn R g t))) (bm_some (xk_bm (by omega)) (by decide)) ?_
        have bs := snA_bm (R := R) (hh := hh) (t := t) (g + 1) (by omega)
        have i2 := ih (by omega) (by omega)
        rw [snA_s2 h h0] at bs i2
        refine rn_eq (v := FP.fadd (snA R hh t g).1 (FP.fmul (gx R g hh) (wt (kn R g t)))) (bm_some bs (by omega)) ?_
        refine rn_eq (v := wt ((snA R hh t g).2 + kn R g t)) ?_ i2
        show o_n32 (FP.fadd (wt (snA R hh t g).2) (wt (kn R g t))) = _
        rw [wt_add (by omega) (by omega)]
        exact wt_some (by omega)
    · rw [if_neg h]
      refine rn_t rfl ?_
      refine rn_t (by decide) ?_
      rw [← snA_s0 h]
      exact ih (by omega) (by omega)
theorem m_snows (hN1 : 200 ≤ N) (hK : KS sh z) (hN : WN R) (ht : t < nn R 1) (hI : RI d z (snF R hh t) K u) (hT : TLD d z R hh (nn R 2)) : Rn (f_X12_snows N sh (z + 242) (nI t) d) (fun r => r.1 = (if (snA R hh t (nn R 2)).2 = 0 then 0 else 1) ∧ MFR z d r.2 ∧ RI r.2 z (snF R hh (t + 1)) K u ∧ TLD r.2 z R hh (nn R 2)) := by
  have n1 := hN.2.1.2
  have n2 := hN.2.2.1.2
  have ha := ks_a hK 243 0 15642 rfl
  have sn := snA_n (R := R) (hh := hh) (t := t) (nn R 2)
  have hc := wt_cmp (n := (snA R hh t (nn R 2)).2) (by omega)
  have wF := snF_wn (R := R) (hh := hh) (t := t) hN (by omega)
  have hTw : ∀ k v, TLD (wI d (z + 243) k v) z R hh (nn R 2) := fun k v g hg => by
    rw [wI_n (by omega)]
    exact hT g hg
  unfold f_X12_snows
  refine rn_t (ks_o hK 242 12 rfl) ?_
  have h0 : f_X12_snows_7 N sh N (z + 242) (nI t) FP.fconst0 FP.fconst0 (0 : Int32) d = f_X12_snows_7 N sh N (z + 242) (nI t) (snA R hh t 0).1 (wt (snA R hh t 0).2) (nI 0) d := by
    show _ = f_X12_snows_7 N sh N (z + 242) (nI t) FP.fconst0 (wt 0) (nI 0) d
    rw [wt_0]
    rfl
  rw [h0]
  refine msn_loop hN1 hK hN ht (snF_smp (by omega)) hI.1 hT ?_ (nn R 2) 0 N (by omega) (by omega)
  unfold f_X12_snows_81 f_X12_snows_107 f_X12_snows_148 f_X12_snows_159
  refine rn_eq (m_st hK) ?_
  refine r_gP hK 242 12 0 243 rfl (by decide) ?_
  by_cases h : (snA R hh t (nn R 2)).2 = 0
  · refine rn_t (hc.mpr h) ?_
    refine rn_eq (q_sI ha (16 + 9 * t + 1) (ix_st t 1) (by omega) (by decide)) ?_
    refine rn_t (hc.mpr h) ?_
    refine rn_t (hc.mpr h) ?_
    refine rn_eq (v := (0 : Int32)) rfl (rn_some ⟨(if_pos h).symm, MFR.wI (by decide) (by decide), ?_, hTw _ _⟩)
    have e : snF R hh (t + 1) = va_up (snF R hh t) (16 + 9 * t + 1) 1 := if_pos h
    rw [e]
    exact ri_cellG hI wF (by omega) (fun s k _ q1 q2 => by omega)
  · have hn : ¬ ((Op.cmpValue (FP.fcmp (wt (snA R hh t (nn R 2)).2) FP.fconst0) .l) ≤ 0) := fun q => h (hc.mp q)
    refine rn_f hn ?_
    refine rn_eq (q_sI ha (16 + 9 * t + 1) (ix_st t 1) (by omega) (by decide)) ?_
    have r1 := ri_cellG (j := 16 + 9 * t + 1) (v := 0) hI wF (by omega) (fun s k _ q1 q2 => by omega)
    refine rn_f hn ?_
    refine r_gP hK 242 12 0 243 rfl (by decide) ?_
    refine rst hK r1.1 0 (by omega) (by decide) rfl ?_
    have ev : va_up (snF R hh t) (16 + 9 * t + 1) 0 (16 + 9 * t + 0) = R (16 + 9 * t + 0) := by
      rw [va_up_n (by omega)]
      exact snF_hi t (by omega)
    rw [ev]
    have b1 := snA_bm (R := R) (hh := hh) (t := t) (nn R 2) (by omega)
    have b2 := sw_bm (bm_mono b1 (by omega)) (by omega) h
    refine rn_eq (v := FP.fdiv (snA R hh t (nn R 2)).1 (wt (snA R hh t (nn R 2)).2)) (bm_some b2 (by decide)) ?_
    refine rn_eq (v := FP.fmul (FP.fdiv (snA R hh t (nn R 2)).1 (wt (snA R hh t (nn R 2)).2)) 1092616192) (bm_some (bm_mul10 b2 (by decide)) (by decide)) ?_
    refine rn_eq (m_whole hK) ?_
    refine rn_eq (m_lesser.trans (congrArg some les_ml)) ?_
    refine rn_eq (q_sI ha (16 + 9 * t + 0) (ix_st t 0) (by omega) (by decide)) ?_
    refine rn_f hn ?_
    refine rn_eq (v := (1 : Int32)) rfl (rn_some ⟨(if_neg h).symm, (MFR.wI (by decide) (by decide)).tr (MFR.wI (by decide) (by decide)), ?_, ?_⟩)
    · have e : snF R hh (t + 1) = va_up (va_up (snF R hh t) (16 + 9 * t + 1) 0) (16 + 9 * t + 0) (snD R hh t) := if_neg h
      rw [e]
      exact ri_cellG r1 (wn_up wF (by omega)) (by omega) (fun s k _ q1 q2 => by omega)
    · intro g hg
      rw [wI_n (by omega), wI_n (by omega)]
      exact hT g hg
theorem snC_le : ∀ t, snC R hh t ≤ t
  | 0 => Nat.le_refl 0
  | t + 1 => by
    have ih := snC_le t
    show snC R hh t + (if (snA R hh t (nn R 2)).2 = 0 then 0 else 1) ≤ t + 1
    split <;> omega
theorem mss_loop (hN1 : 200 ≤ N) (hK : KS sh z) (hN : WN R) : ∀ (m t fu : Nat) (d : Dt), t + m = nn R 1 → m < fu → MFR z d0 d → RI d z (snF R hh t) R true → TLD d z R hh (nn R 2) → Rn (f_X12_snow_115 N sh fu (z + 242) (nI (snC R hh t)) (nI t) d) (RO z R K u (nI (snC R hh (nn R 1)), some (snF R hh (nn R 1))) d0)
  | 0, t, fu, d, ht, hf, hM, hI, hT => by
    obtain ⟨fu, rfl⟩ : ∃ q, fu = q + 1 := ⟨fu - 1, by omega⟩
    show Rn (g_X12_snow_115 N sh (f_X12_snow_115 N sh fu) (z + 242) (nI (snC R hh t)) (nI t) d) _
    have n1 := hN.2.1
    unfold g_X12_snow_115 f_X12_snow_147
    refine rdg hK hI.1 1 rfl (by decide) ?_
    rw [snF_out (fun t' _ => by omega) t (by omega), n1.1]
    refine rn_t (nI_le (by omega) (by omega)) ?_
    have e : t = nn R 1 := by omega
    subst e
    exact ro_done hK hI hM rfl
  | m + 1, t, fu, d, ht, hf, hM, hI, hT => by
    obtain ⟨fu, rfl⟩ : ∃ q, fu = q + 1 := ⟨fu - 1, by omega⟩
    have ih := mss_loop hN1 hK hN m (t + 1) fu
    show Rn (g_X12_snow_115 N sh (f_X12_snow_115 N sh fu) (z + 242) (nI (snC R hh t)) (nI t) d) _
    have n1 := hN.2.1
    unfold g_X12_snow_115 f_X12_snow_139
    refine rdg hK hI.1 1 rfl (by decide) ?_
    rw [snF_out (fun t' _ => by omega) t (by omega), n1.1]
    refine rn_f (nI_ge (by omega) (by omega)) ?_
    refine rn_bind (m_snows hN1 hK hN (by omega) hI hT) (fun r hr => ?_)
    obtain ⟨r1, r2, r3, r4⟩ := hr
    rw [r1, nI_1]
    have es : snC R hh (t + 1) = snC R hh t + if (snA R hh t (nn R 2)).2 = 0 then 0 else 1 := rfl
    by_cases h : (snA R hh t (nn R 2)).2 = 0
    · rw [if_pos h]
      refine rn_t rfl ?_
      rw [if_pos h] at es
      have := ih r.2 (by omega) (by omega) (hM.tr r2) r3 r4
      rw [es] at this
      rw [show nI (snC R hh t) + 0 = nI (snC R hh t + 0) from nI_add _ 0]
      exact this
    · rw [if_neg h]
      refine rn_f (by decide) ?_
      rw [if_neg h] at es
      have := ih r.2 (by omega) (by omega) (hM.tr r2) r3 r4
      rw [es] at this
      rw [nI_1]
      exact this
theorem brs_tl (hG : WG R) (hg : g < nn R 2) : brs R g (nI hh) = 0 ↔ (R (1366 + 3 * g + 2) ≠ -1 ∧ hh < nn R (1366 + 3 * g + 2)) ∨ 2 ^ 31 ≤ hh ∧ brs R g (nI hh) = 0 := by
  by_cases hb : 2 ^ 31 ≤ hh
  · exact ⟨fun q => Or.inr ⟨hb, q⟩, fun q => q.elim (fun q => by have := (hG g hg).2; omega) (fun q => q.2)⟩
  have g1 := hG g hg
  unfold brs
  by_cases h1 : R (1366 + 3 * g + 2) = -1
  · rw [if_pos h1]
    exact ⟨fun q => absurd q (by decide), fun q => q.elim (fun q => absurd h1 q.1) (fun q => absurd q.1 hb)⟩
  rw [if_neg h1, g1.1.resolve_left h1]
  by_cases h2 : nI hh < 0 ∨ nI (nn R (1366 + 3 * g + 2)) ≤ nI hh
  · rw [if_pos h2]
    refine ⟨fun q => absurd q (by decide), fun q => q.elim (fun q => ?_) (fun q => absurd q.1 hb)⟩
    exact absurd h2 (fun r => r.elim (nI_pos (by omega)) (nI_ge q.2 (by omega)))
  · rw [if_neg h2]
    refine ⟨fun _ => Or.inl ⟨by rw [← g1.1.resolve_left h1]; exact h1, ?_⟩, fun _ => rfl⟩
    rcases Nat.lt_or_ge hh (nn R (1366 + 3 * g + 2)) with q | q
    · exact q
    · exact absurd (Or.inr (nI_le q (by omega))) h2
theorem msg_loop (hNf : 15642 < N) (hK : KS sh z) (hR : WF R) (hh2 : hh < 200) : ∀ (m g fu : Nat) (d : Dt), g + m = nn R 2 → m < fu → MFR z d0 d → RI d z R R true → TLD d z R hh g → Rn (f_X12_snow_24 N sh fu (z + 242) (nI hh) (nI g) d) (RO z R K u (nI (snC R hh (nn R 1)), some (snF R hh (nn R 1))) d0)
  | 0, g, fu, d, hg, hf, hM, hI, hT => by
    obtain ⟨fu, rfl⟩ : ∃ q, fu = q + 1 := ⟨fu - 1, by omega⟩
    show Rn (g_X12_snow_24 N sh (f_X12_snow_24 N sh fu) (z + 242) (nI hh) (nI g) d) _
    have n2 := hR.1.2.2.1
    have n1 := hR.1.2.1.2
    unfold g_X12_snow_24 f_X12_snow_111
    refine rdg hK hI.1 2 rfl (by decide) ?_
    rw [n2.1]
    refine rn_t (nI_le (by omega) (by omega)) ?_
    have e : g = nn R 2 := by omega
    subst e
    exact mss_loop (by omega) hK hR.1 (nn R 1) 0 N d (by omega) (by omega) hM hI hT
  | m + 1, g, fu, d, hg, hf, hM, hI, hT => by
    obtain ⟨fu, rfl⟩ : ∃ q, fu = q + 1 := ⟨fu - 1, by omega⟩
    have ih := msg_loop hNf hK hR hh2 m (g + 1) fu
    show Rn (g_X12_snow_24 N sh (f_X12_snow_24 N sh fu) (z + 242) (nI hh) (nI g) d) _
    have n2 := hR.1.2.2.1
    have hg2 : g < nn R 2 := by omega
    unfold g_X12_snow_24
    refine rdg hK hI.1 2 rfl (by decide) ?_
    rw [n2.1]
    refine rn_f (nI_ge (by omega) (by omega)) ?_
    refine rn_eq (m_bars hK hI.1 hR.1 hR.2.1 hg2) ?_
    refine rn_bind (m_finds hK) (fun d1 hd => ?_)
    have hI1 := ri_rg hI hd
    have hT1 : TLD d1 z R hh g := fun g' hg' => by
      rw [hd.2.1 (z + 249) (by omega) (by omega), hd.1]
      exact hT g' hg'
    refine r_gP hK 242 12 12 249 rfl (by decide) ?_
    have fin : ∀ b : Int32, (b = if tl R hh g then 1 else 0) → Rn (f_X12_snow_79 N sh (f_X12_snow_24 N sh fu) (z + 242) (nI hh) (nI g) (z + 249) (nI g) b d1) (RO z R K u (nI (snC R hh (nn R 1)), some (snF R hh (nn R 1))) d0) := fun b hb => by
      have hnb : vp_nar .boolean b = b := by
        rw [hb]
        split
        · exact nar_b.1
        · exact nar_b.2
      have h249 := ks_a hK 249 4 20 rfl
      have h250 := ks_a hK 250 2 20 rfl
      unfold f_X12_snow_79 f_X12_snow_104
      refine rn_eq (q_sZ h249 g rfl (by omega) (by decide)) ?_
      rw [hnb, nI_1]
      refine r_gP hK 242 12 13 250 rfl (by decide) ?_
      refine r_gP hK 242 12 12 249 rfl (by decide) ?_
      refine rn_eq (q_aT h249 g rfl (by omega) (by decide)) ?_
      rw [wI_s, va_up_s]
      have hI2 : RI (wI d1 (z + 249) g b) z R R true := ri_o hI1 (by decide) (by decide)
      have hM2 : MFR z d0 (wI d1 (z + 249) g b) := (hM.tr hd.mfr).tr (MFR.wI (by decide) (by decide))
      have stp : ∀ w : UInt32, (tl R hh g → w = gx R g hh) → Rn ((sF sh (wI d1 (z + 249) g b) (z + 250) (nI g) w).bind fun d19 => f_X12_snow_24 N sh fu (z + 242) (nI hh) (nI (g + 1)) d19) (RO z R K u (nI (snC R hh (nn R 1)), some (snF R hh (nn R 1))) d0) := fun w hw => by
        refine rn_eq (q_sF h250 g rfl (by omega) (by decide)) ?_
        refine ih _ (by omega) (by omega) ?_ hI2 (fun g' hg' => ?_)
        · exact ⟨hM2.1, hM2.2.1, fun a q => ⟨(hM2.2.2 a q).1, (up2_n (show a ≠ z + 250 by omega)).trans (hM2.2.2 a q).2⟩⟩
        · show (wI d1 (z + 249) g b).1 (z + 249) g' = _ ∧ (tl R hh g' → up2 d1.2.2.1 (z + 250) g w (z + 250) g' = _)
          rw [wI_s, up2_s]
          by_cases e : g' = g
          · subst e
            rw [va_up_s, va_up_s]
            exact ⟨hb, hw⟩
          · rw [va_up_n e, va_up_n e]
            exact hT1 g' (by omega)
      by_cases h : tl R hh g
      · rw [hb, if_pos h] at *
        refine rn_f (by decide) ?_
        refine rn_eq (m_x hK hI2.1 (by omega) hh2) ?_
        exact stp _ (fun _ => rfl)
      · rw [hb, if_neg h] at *
        refine rn_t rfl ?_
        exact stp _ (fun q => absurd q h)
    unfold f_X12_snow_78
    have hbt := brs_tl (hh := hh) hR.2.1 hg2
    refine rn_ite (fun h1 => ?_) (fun h1 => ?_)
    · refine fin 0 (if_neg (fun q => h1 (hbt.mpr (Or.inl ⟨q.1, q.2.1⟩)))).symm
    have h1 := Decidable.of_not_not h1
    have h2 := (hbt.mp h1).resolve_right (fun q => by omega)
    refine rdg hK hI1.1 (5426 + 200 * g + hh) (ix_rd 5426 g hh) (by omega) ?_
    refine rn_ite (fun h3 => ?_) (fun h3 => ?_)
    · exact fin 0 (if_neg (fun q => h3 q.2.2)).symm
    · exact fin 1 (if_pos ⟨h2.1, h2.2, Decidable.of_not_not h3⟩).symm
theorem m_snow {x : Int32} (hNf : 15642 < N) (hK : KS sh z) (h : RI d z R K u) (hR : WF R) : Rn (f_X12_snow N sh (z + 242) x d) (RO z R K u (sp_snow R x) d) := by
  have n2 := hR.1.2.2.1.2
  unfold f_X12_snow
  refine rn_t (ks_o hK 242 12 rfl) ?_
  refine rn_eq m_in ?_
  by_cases h1 : x < 0 ∨ 199 < x
  · rw [show sp_snow R x = _ from if_pos h1]
    refine rn_f (fun q => q (ite01.mpr h1)) ?_
    exact ro_refuses hK h rfl
  · rw [show sp_snow R x = _ from if_neg h1]
    refine rn_t (fun q => h1 (ite01.mp q)) ?_
    obtain ⟨hh, hh2, rfl, e⟩ := st_of (x := x) (n := 200) (by decide) (fun q => q.elim (fun q => h1 (Or.inl q)) (fun q => h1 (Or.inr ((lt_pred (n := 200) (by decide)).mpr q))))
    rw [e]
    refine rn_bind (ri_keeps h hK hNf) (fun d1 hd => ?_)
    exact msg_loop hNf hK hR hh2 (nn R 2) 0 N d1 (by omega) (by omega) hd.2 hd.1 (fun g hg => absurd hg (Nat.not_lt_zero g))
end SNR
