/-! 9l.snowr.lean.txt -/
/-! snow() of the reference -/
section SNR
variable {s s' : AS} {sh : Sh} {d d' d0 : Dt} {z : Nat} {ow ow' : Nat → Nat} {R R' Rc K : Nat → Int32} {u : Bool} {y : YL} {c N g t hh : Nat} {q q' : BL}
/-- what the gauges told -/
def TLD (d : Dt) (z : Nat) (R : Nat → Int32) (hh n : Nat) : Prop := ∀ g, g < n → d.1 (z + 249) g = (if tl R hh g then 1 else 0) ∧ (tl R hh g → d.2.2.1 (z + 250) g = gx R g hh)
theorem snA_s0 (h : ¬ tl R hh g) : snA R hh t (g + 1) = snA R hh t g := if_neg h
theorem snA_s1 (h : tl R hh g) (h2 : kn R g t = 0) : snA R hh t (g + 1) = snA R hh t g := (if_pos h).trans (if_pos h2)
theorem snA_s2 (h : tl R hh g) (h2 : kn R g t ≠ 0) : snA R hh t (g + 1) = (FP.fadd (snA R hh t g).1 (FP.fmul (gx R g hh) (wt (kn R g t))), (snA R hh t g).2 + kn R g t) := (if_pos h).trans (if_neg h2)
theorem msn_loop {Q : Int32 × Dt → Prop} (hN1 : 200 ≤ N) (hK : KS sh z) (hN : WN R) (ht : t < nn R 1) (hS : smp R Rc) (hA : AG (d.1 (z + 243)) Rc) (hT : TLD d z R hh (nn R 2)) (hk : Rn (f_X12_snows_81 N sh (z + 242) (nI t) (snA R hh t (nn R 2)).1 (wt (snA R hh t (nn R 2)).2) d) Q) : ∀ (m g fu : Nat), g + m = nn R 2 → m < fu → Rn (f_X12_snows_7 N sh fu (z + 242) (nI t) (snA R hh t g).1 (wt (snA R hh t g).2) (nI g) d) Q
  | 0, g, fu, hg, hf => by
    obtain ⟨fu, rfl⟩ : ∃ q, fu = q + 1 := ⟨fu - 1, by omega⟩
    show Rn (g_X12_snows_7 N sh (f_X12_snows_7 N sh fu) (z + 242) (nI t) (snA R hh t g).1 (wt (snA R hh t g).2) (nI g) d) _
    have n2 := hN.2.2.1
    unfold g_X12_snows_7
    refine rdg hK hA 2 rfl (by decide) ?_
    rw [hS 2 (fun t' _ => by omega), n2.1]
    refine rn_t (nI_le (by omega) (by omega)) ?_
    have e : g = nn R 2 := by omega
    subst e
    exact hk
  | m + 1, g, fu, hg, hf => by
    obtain ⟨fu, rfl⟩ : ∃ q, fu = q + 1 := ⟨fu - 1, by omega⟩
    have ih := msn_loop hN1 hK hN ht hS hA hT hk m (g + 1) fu
    show Rn (g_X12_snows_7 N sh (f_X12_snows_7 N sh fu) (z + 242) (nI t) (snA R hh t g).1 (wt (snA R hh t g).2) (nI g) d) _
    have n1 := hN.2.1.2
    have n2 := hN.2.2.1
    obtain ⟨t1, t2⟩ := hT g (by omega)
    unfold g_X12_snows_7 f_X12_snows_48 f_X12_snows_75
    refine rdg hK hA 2 rfl (by decide) ?_
    rw [hS 2 (fun t' _ => by omega), n2.1]
    refine rn_f (nI_ge (by omega) (by omega)) ?_
    refine r_gP hK 242 12 12 249 rfl (by decide) ?_
    refine rn_eq (q_aT (ks_a hK 249 4 20 rfl) g rfl (by omega) (by decide)) ?_
    rw [t1, nI_1]
    by_cases h : tl R hh g
    · rw [if_pos h]
      refine rn_f (by decide) ?_
      refine r_gP hK 242 12 0 243 rfl (by decide) ?_
      refine rn_eq (m_ga hK) ?_
      refine rn_eq (q_aT (ks_a hK 243 0 15642 rfl) (1366 + 3 * g) (ix_ga0 g) (by omega) (by decide)) ?_
      rw [hA _ (by omega)]
      have hNc : nn Rc 1 = nn R 1 := hS.cn (fun t' _ => by omega)
      have hWc : WN Rc := by
        have e : ∀ j, j < 5 → Rc j = R j := fun j hj => hS j (fun t' _ => by omega)
        have en : ∀ j, j < 5 → nn Rc j = nn R j := fun j hj => by unfold nn; rw [e j hj]
        unfold WN
        rw [e 0 (by omega), e 1 (by omega), e 2 (by omega), e 3 (by omega), e 4 (by omega), en 0 (by omega), en 1 (by omega), en 2 (by omega), en 3 (by omega), en 4 (by omega)]
        exact hN
      refine rn_eq (m_near hN1 hK hWc hA (by omega)) ?_
      rw [kn_smp hS]
      have k2 := kn_le (R := R) (g := g) (t := t)
      have sn := snA_n (R := R) (hh := hh) (t := t) g
      by_cases h0 : kn R g t = 0
      · refine rn_t (by rw [h0]; decide) ?_
        rw [← snA_s1 h h0]
        exact ih (by omega) (by omega)
      · refine rn_f (nI_nle (by omega) (by omega)) ?_
        refine r_gP hK 242 12 13 250 rfl (by decide) ?_
        refine rn_eq (q_aF (ks_a hK 250 2 20 rfl) g rfl (by omega) (by decide)) ?_
        rw [t2 h]
        refine rn_eq (v := FP.fmul (gx R g hh) (wt (kn R g t))) (bm_some (xk_bm (by omega)) (by decide)) ?_
        have bs := snA_bm (R := R) (hh := hh) (t := t) (g + 1) (by omega)
        have i2 := ih (by omega) (by omega)
        rw [snA_s2 h h0] at bs i2
        refine rn_eq (v := FP.fadd (snA R hh t g).1 (FP.fmul (gx R g hh) (wt (kn R g t)))) (bm_some bs (by omega)) ?_
        refine rn_eq (v := wt ((snA R hh t g).2 + kn R g t)) ?_ i2
        show o_n32 (FP.fadd (wt (snA R hh t g).2) (wt (kn R g t))) = _
        rw [wt_add (by omega) (by omega)]
        exact wt_some (by omega)
    · rw [if_neg h]
      refine rn_t rfl ?_
      refine rn_t (by decide) ?_
      rw [← snA_s0 h]
      exact ih (by omega) (by omega)
theorem m_snows (hN1 : 200 ≤ N) (hK : KS sh z) (hN : WN R) (ht : t < nn R 1) (hI : RI d z (snF R hh t) K u) (hT : TLD d z R hh (nn R 2)) : Rn (f_X12_snows N sh (z + 242) (nI t) d) (fun r => r.1 = (if (snA R hh t (nn R 2)).2 = 0 then 0 else 1) ∧ MFR z d r.2 ∧ RI r.2 z (snF R hh (t + 1)) K u ∧ TLD r.2 z R hh (nn R 2)) := by
  have n1 := hN.2.1.2
  have n2 := hN.2.2.1.2
  have ha := ks_a hK 243 0 15642 rfl
  have sn := snA_n (R := R) (hh := hh) (t := t) (nn R 2)
  have hc := wt_cmp (n := (snA R hh t (nn R 2)).2) (by omega)
  have wF := snF_wn (R := R) (hh := hh) (t := t) hN (by omega)
  have hTw : ∀ k v, TLD (wI d (z + 243) k v) z R hh (nn R 2) := fun k v g hg => by
    rw [wI_n (by omega)]
    exact hT g hg
  unfold f_X12_snows
  refine rn_t (ks_o hK 242 12 rfl) ?_
  have h0 : f_X12_snows_7 N sh N (z + 242) (nI t) FP.fconst0 FP.fconst0 (0 : Int32) d = f_X12_snows_7 N sh N (z + 242) (nI t) (snA R hh t 0).1 (wt (snA R hh t 0).2) (nI 0) d := by
    show _ = f_X12_snows_7 N sh N (z + 242) (nI t) FP.fconst0 (wt 0) (nI 0) d
    rw [wt_0]
    rfl
  rw [h0]
  refine msn_loop hN1 hK hN ht (snF_smp (by omega)) hI.1 hT ?_ (nn R 2) 0 N (by omega) (by omega)
  unfold f_X12_snows_81 f_X12_snows_107 f_X12_snows_148 f_X12_snows_159
  refine rn_eq (m_st hK) ?_
  refine r_gP hK 242 12 0 243 rfl (by decide) ?_
  by_cases h : (snA R hh t (nn R 2)).2 = 0
  · refine rn_t (hc.mpr h) ?_
    refine rn_eq (q_sI ha (16 + 9 * t + 1) (ix_st t 1) (by omega) (by decide)) ?_
    refine rn_t (hc.mpr h) ?_
    refine rn_t (hc.mpr h) ?_
    refine rn_eq (v := (0 : Int32)) rfl (rn_some ⟨(if_pos h).symm, MFR.wI (by decide) (by decide), ?_, hTw _ _⟩)
    have e : snF R hh (t + 1) = va_up (snF R hh t) (16 + 9 * t + 1) 1 := if_pos h
    rw [e]
    exact ri_cellG hI wF (by omega) (fun s k _ q1 q2 => by omega)
  · have hn : ¬ ((Op.cmpValue (FP.fcmp (wt (snA R hh t (nn R 2)).2) FP.fconst0) .l) ≤ 0) := fun q => h (hc.mp q)
    refine rn_f hn ?_
    refine rn_eq (q_sI ha (16 + 9 * t + 1) (ix_st t 1) (by omega) (by decide)) ?_
    have r1 := ri_cellG (j := 16 + 9 * t + 1) (v := 0) hI wF (by omega) (fun s k _ q1 q2 => by omega)
    refine rn_f hn ?_
    refine r_gP hK 242 12 0 243 rfl (by decide) ?_
    refine rst hK r1.1 0 (by omega) (by decide) rfl ?_
    have ev : va_up (snF R hh t) (16 + 9 * t + 1) 0 (16 + 9 * t + 0) = R (16 + 9 * t + 0) := by
      rw [va_up_n (by omega)]
      exact snF_hi t (by omega)
    rw [ev]
    have b1 := snA_bm (R := R) (hh := hh) (t := t) (nn R 2) (by omega)
    have b2 := sw_bm (bm_mono b1 (by omega)) (by omega) h
    refine rn_eq (v := FP.fdiv (snA R hh t (nn R 2)).1 (wt (snA R hh t (nn R 2)).2)) (bm_some b2 (by decide)) ?_
    refine rn_eq (v := FP.fmul (FP.fdiv (snA R hh t (nn R 2)).1 (wt (snA R hh t (nn R 2)).2)) 1092616192) (bm_some (bm_mul10 b2 (by decide)) (by decide)) ?_
    refine rn_eq (m_whole hK) ?_
    refine rn_eq (m_lesser.trans (congrArg some les_ml)) ?_
    refine rn_eq (q_sI ha (16 + 9 * t + 0) (ix_st t 0) (by omega) (by decide)) ?_
    refine rn_f hn ?_
    refine rn_eq (v := (1 : Int32)) rfl (rn_some ⟨(if_neg h).symm, (MFR.wI (by decide) (by decide)).tr (MFR.wI (by decide) (by decide)), ?_, ?_⟩)
    · have e : snF R hh (t + 1) = va_up (va_up (snF R hh t) (16 + 9 * t + 1) 0) (16 + 9 * t + 0) (snD R hh t) := if_neg h
      rw [e]
      exact ri_cellG r1 (wn_up wF (by omega)) (by omega) (fun s k _ q1 q2 => by omega)
    · intro g hg
      rw [wI_n (by omega), wI_n (by omega)]
      exact hT g hg
theorem snC_le : ∀ t, snC R hh t ≤ t
  | 0 => Nat.le_refl 0
  | t + 1 => by
    have ih := snC_le t
    show snC R hh t + (if (snA R hh t (nn R 2)).2 = 0 then 0 else 1) ≤ t + 1
    split <;> omega
theorem mss_loop (hN1 : 200 ≤ N) (hK : KS sh z) (hN : WN R) : ∀ (m t fu : Nat) (d : Dt), t + m = nn R 1 → m < fu → MFR z d0 d → RI d z (snF R hh t) R true → TLD d z R hh (nn R 2) → Rn (f_X12_snow_115 N sh fu (z + 242) (nI (snC R hh t)) (nI t) d) (RO z R K u (nI (snC R hh (nn R 1)), some (snF R hh (nn R 1))) d0)
  | 0, t, fu, d, ht, hf, hM, hI, hT => by
    obtain ⟨fu, rfl⟩ : ∃ q, fu = q + 1 := ⟨fu - 1, by omega⟩
    show Rn (g_X12_snow_115 N sh (f_X12_snow_115 N sh fu) (z + 242) (nI (snC R hh t)) (nI t) d) _
    have n1 := hN.2.1
    unfold g_X12_snow_115 f_X12_snow_147
    refine rdg hK hI.1 1 rfl (by decide) ?_
    rw [snF_out (fun t' _ => by omega) t (by omega), n1.1]
    refine rn_t (nI_le (by omega) (by omega)) ?_
    have e : t = nn R 1 := by omega
    subst e
    exact ro_done hK hI hM rfl
  | m + 1, t, fu, d, ht, hf, hM, hI, hT => by
    obtain ⟨fu, rfl⟩ : ∃ q, fu = q + 1 := ⟨fu - 1, by omega⟩
    have ih := mss_loop hN1 hK hN m (t + 1) fu
    show Rn (g_X12_snow_115 N sh (f_X12_snow_115 N sh fu) (z + 242) (nI (snC R hh t)) (nI t) d) _
    have n1 := hN.2.1
    unfold g_X12_snow_115 f_X12_snow_139
    refine rdg hK hI.1 1 rfl (by decide) ?_
    rw [snF_out (fun t' _ => by omega) t (by omega), n1.1]
    refine rn_f (nI_ge (by omega) (by omega)) ?_
    refine rn_bind (m_snows hN1 hK hN (by omega) hI hT) (fun r hr => ?_)
    obtain ⟨r1, r2, r3, r4⟩ := hr
    rw [r1, nI_1]
    have es : snC R hh (t + 1) = snC R hh t + if (snA R hh t (nn R 2)).2 = 0 then 0 else 1 := rfl
    by_cases h : (snA R hh t (nn R 2)).2 = 0
    · rw [if_pos h]
      refine rn_t rfl ?_
      rw [if_pos h] at es
      have := ih r.2 (by omega) (by omega) (hM.tr r2) r3 r4
      rw [es] at this
      rw [show nI (snC R hh t) + 0 = nI (snC R hh t + 0) from nI_add _ 0]
      exact this
    · rw [if_neg h]
      refine rn_f (by decide) ?_
      rw [if_neg h] at es
      have := ih r.2 (by omega) (by omega) (hM.tr r2) r3 r4
      rw [es] at this
      rw [nI_1]
      exact this
theorem brs_tl (hG : WG R) (hg : g < nn R 2) : brs R g (nI hh) = 0 ↔ (R (1366 + 3 * g + 2) ≠ -1 ∧ hh < nn R (1366 + 3 * g + 2)) ∨ 2 ^ 31 ≤ hh ∧ brs R g (nI hh) = 0 := by
  by_cases hb : 2 ^ 31 ≤ hh
  · exact ⟨fun q => Or.inr ⟨hb, q⟩, fun q => q.elim (fun q => by have := (hG g hg).2; omega) (fun q => q.2)⟩
  have g1 := hG g hg
  unfold brs
  by_cases h1 : R (1366 + 3 * g + 2) = -1
  · rw [if_pos h1]
    exact ⟨fun q => absurd q (by decide), fun q => q.elim (fun q => absurd h1 q.1) (fun q => absurd q.1 hb)⟩
  rw [if_neg h1, g1.1.resolve_left h1]
  by_cases h2 : nI hh < 0 ∨ nI (nn R (1366 + 3 * g + 2)) ≤ nI hh
  · rw [if_pos h2]
    refine ⟨fun q => absurd q (by decide), fun q => q.elim (fun q => ?_) (fun q => absurd q.1 hb)⟩
    exact absurd h2 (fun r => r.elim (nI_pos (by omega)) (nI_ge q.2 (by omega)))
  · rw [if_neg h2]
    refine ⟨fun _ => Or.inl ⟨by rw [← g1.1.resolve_left h1]; exact h1, ?_⟩, fun _ => rfl⟩
    rcases Nat.lt_or_ge hh (nn R (1366 + 3 * g + 2)) with q | q
    · exact q
    · exact absurd (Or.inr (nI_le q (by omega))) h2
theorem msg_loop (hNf : 15642 < N) (hK : KS sh z) (hR : WF R) (hh2 : hh < 200) : ∀ (m g fu : Nat) (d : Dt), g + m = nn R 2 → m < fu → MFR z d0 d → RI d z R R true → TLD d z R hh g → Rn (f_X12_snow_24 N sh fu (z + 242) (nI hh) (nI g) d) (RO z R K u (nI (snC R hh (nn R 1)), some (snF R hh (nn R 1))) d0)
  | 0, g, fu, d, hg, hf, hM, hI, hT => by
    obtain ⟨fu, rfl⟩ : ∃ q, fu = q + 1 := ⟨fu - 1, by omega⟩
    show Rn (g_X12_snow_24 N sh (f_X12_snow_24 N sh fu) (z + 242) (nI hh) (nI g) d) _
    have n2 := hR.1.2.2.1
    have n1 := hR.1.2.1.2
    unfold g_X12_snow_24 f_X12_snow_111
    refine rdg hK hI.1 2 rfl (by decide) ?_
    rw [n2.1]
    refine rn_t (nI_le (by omega) (by omega)) ?_
    have e : g = nn R 2 := by omega
    subst e
    exact mss_loop (by omega) hK hR.1 (nn R 1) 0 N d (by omega) (by omega) hM hI hT
  | m + 1, g, fu, d, hg, hf, hM, hI, hT => by
    obtain ⟨fu, rfl⟩ : ∃ q, fu = q + 1 := ⟨fu - 1, by omega⟩
    have ih := msg_loop hNf hK hR hh2 m (g + 1) fu
    show Rn (g_X12_snow_24 N sh (f_X12_snow_24 N sh fu) (z + 242) (nI hh) (nI g) d) _
    have n2 := hR.1.2.2.1
    have hg2 : g < nn R 2 := by omega
    unfold g_X12_snow_24
    refine rdg hK hI.1 2 rfl (by decide) ?_
    rw [n2.1]
    refine rn_f (nI_ge (by omega) (by omega)) ?_
    refine rn_eq (m_bars hK hI.1 hR.1 hR.2.1 hg2) ?_
    refine rn_bind (m_finds hK) (fun d1 hd => ?_)
    have hI1 := ri_rg hI hd
    have hT1 : TLD d1 z R hh g := fun g' hg' => by
      rw [hd.2.1 (z + 249) (by omega) (by omega), hd.1]
      exact hT g' hg'
    refine r_gP hK 242 12 12 249 rfl (by decide) ?_
    have fin : ∀ b : Int32, (b = if tl R hh g then 1 else 0) → Rn (f_X12_snow_79 N sh (f_X12_snow_24 N sh fu) (z + 242) (nI hh) (nI g) (z + 249) (nI g) b d1) (RO z R K u (nI (snC R hh (nn R 1)), some (snF R hh (nn R 1))) d0) := fun b hb => by
      have hnb : vp_nar .boolean b = b := by
        rw [hb]
        split
        · exact nar_b.1
        · exact nar_b.2
      have h249 := ks_a hK 249 4 20 rfl
      have h250 := ks_a hK 250 2 20 rfl
      unfold f_X12_snow_79 f_X12_snow_104
      refine rn_eq (q_sZ h249 g rfl (by omega) (by decide)) ?_
      rw [hnb, nI_1]
      refine r_gP hK 242 12 13 250 rfl (by decide) ?_
      refine r_gP hK 242 12 12 249 rfl (by decide) ?_
      refine rn_eq (q_aT h249 g rfl (by omega) (by decide)) ?_
      rw [wI_s, va_up_s]
      have hI2 : RI (wI d1 (z + 249) g b) z R R true := ri_o hI1 (by decide) (by decide)
      have hM2 : MFR z d0 (wI d1 (z + 249) g b) := (hM.tr hd.mfr).tr (MFR.wI (by decide) (by decide))
      have stp : ∀ w : UInt32, (tl R hh g → w = gx R g hh) → Rn ((sF sh (wI d1 (z + 249) g b) (z + 250) (nI g) w).bind fun d19 => f_X12_snow_24 N sh fu (z + 242) (nI hh) (nI (g + 1)) d19) (RO z R K u (nI (snC R hh (nn R 1)), some (snF R hh (nn R 1))) d0) := fun w hw => by
        refine rn_eq (q_sF h250 g rfl (by omega) (by decide)) ?_
        refine ih _ (by omega) (by omega) ?_ hI2 (fun g' hg' => ?_)
        · exact ⟨hM2.1, hM2.2.1, fun a q => ⟨(hM2.2.2 a q).1, (up2_n (show a ≠ z + 250 by omega)).trans (hM2.2.2 a q).2⟩⟩
        · show (wI d1 (z + 249) g b).1 (z + 249) g' = _ ∧ (tl R hh g' → up2 d1.2.2.1 (z + 250) g w (z + 250) g' = _)
          rw [wI_s, up2_s]
          by_cases e : g' = g
          · subst e
            rw [va_up_s, va_up_s]
            exact ⟨hb, hw⟩
          · rw [va_up_n e, va_up_n e]
            exact hT1 g' (by omega)
      by_cases h : tl R hh g
      · rw [hb, if_pos h] at *
        refine rn_f (by decide) ?_
        refine rn_eq (m_x hK hI2.1 (by omega) hh2) ?_
        exact stp _ (fun _ => rfl)
      · rw [hb, if_neg h] at *
        refine rn_t rfl ?_
        exact stp _ (fun q => absurd q h)
    unfold f_X12_snow_78
    have hbt := brs_tl (hh := hh) hR.2.1 hg2
    refine rn_ite (fun h1 => ?_) (fun h1 => ?_)
    · refine fin 0 (if_neg (fun q => h1 (hbt.mpr (Or.inl ⟨q.1, q.2.1⟩)))).symm
    have h1 := Decidable.of_not_not h1
    have h2 := (hbt.mp h1).resolve_right (fun q => by omega)
    refine rdg hK hI1.1 (5426 + 200 * g + hh) (ix_rd 5426 g hh) (by omega) ?_
    refine rn_ite (fun h3 => ?_) (fun h3 => ?_)
    · exact fin 0 (if_neg (fun q => h3 q.2.2)).symm
    · exact fin 1 (if_pos ⟨h2.1, h2.2, Decidable.of_not_not h3⟩).symm
theorem m_snow {x : Int32} (hNf : 15642 < N) (hK : KS sh z) (h : RI d z R K u) (hR : WF R) : Rn (f_X12_snow N sh (z + 242) x d) (RO z R K u (sp_snow R x) d) := by
  have n2 := hR.1.2.2.1.2
  unfold f_X12_snow
  refine rn_t (ks_o hK 242 12 rfl) ?_
  refine rn_eq m_in ?_
  by_cases h1 : x < 0 ∨ 199 < x
  · rw [show sp_snow R x = _ from if_pos h1]
    refine rn_f (fun q => q (ite01.mpr h1)) ?_
    exact ro_refuses hK h rfl
  · rw [show sp_snow R x = _ from if_neg h1]
    refine rn_t (fun q => h1 (ite01.mp q)) ?_
    obtain ⟨hh, hh2, rfl, e⟩ := st_of (x := x) (n := 200) (by decide) (fun q => q.elim (fun q => h1 (Or.inl q)) (fun q => h1 (Or.inr ((lt_pred (n := 200) (by decide)).mpr q))))
    rw [e]
    refine rn_bind (ri_keeps h hK hNf) (fun d1 hd => ?_)
    exact msg_loop hNf hK hR hh2 (nn R 2) 0 N d1 (by omega) (by omega) hd.2 hd.1 (fun g hg => absurd hg (Nat.not_lt_zero g))
end SNR
/-! 9m.snowk.lean.txt -/
/-! snow() of the class -/
section SNK
variable {s s' s0 s1 : AS} {sh : Sh} {d d' d0 : Dt} {z : Nat} {ow ow' : Nat → Nat} {R R' Rc K : Nat → Int32} {u : Bool} {y : YL} {c N g t hh : Nat} {q q' : BL} {L L4 : Nat → Nat}
theorem up_cm {f : Nat → Int32} {a b : Nat} {x y : Int32} (h : a ≠ b) : va_up (va_up f a x) b y = va_up (va_up f b y) a x := funext fun j => by
  by_cases ha : j = a
  · subst ha
    rw [va_up_n h, va_up_s, va_up_s]
  · by_cases hb : j = b
    · subst hb
      rw [va_up_s, va_up_n ha, va_up_s]
    · rw [va_up_n hb, va_up_n ha, va_up_n ha, va_up_n hb]
theorem geq_edge (hg : GEQ R R') {s u v : Nat} : edge R' s u v ↔ edge R s u v := ⟨fun h => hg.sy.edge h, fun h => hg.edge h⟩
theorem wy_geq (h : WY d z R) (hg : GEQ R R') : WY d z R' := by
  rcases h with h | ⟨h1, h2, h3⟩
  · exact Or.inl h
  have sl : ∀ s, s < nn R 1 → sln R' s = sln R s := fun s hs => by
    unfold sln nn
    rw [hg.2.2 s 6 hs (by decide) (by decide)]
  refine Or.inr ⟨h1, ⟨fun u v hu hv => ?_, h2.2⟩, fun v hv hb u hu => hg.dOK (h3 v hv hb u hu)⟩
  obtain ⟨a, b⟩ := h2.1 u v hu hv
  refine ⟨?_, b.trans (exists_congr (fun s => (geq_edge hg).symm))⟩
  rcases a with ⟨a1, a2⟩ | ⟨s, a1, a2, a3⟩
  · exact Or.inl ⟨a1, fun s hs => a2 s ((geq_edge hg).mp hs)⟩
  · refine Or.inr ⟨s, a1, (geq_edge hg).mpr a2, fun s' hs' => ?_⟩
    have e := (geq_edge hg).mp hs'
    rw [sl s a2.1, sl s' e.1]
    exact a3 s' e
/-- another R with the same map: the ways stay -/
theorem ci_newG (h : CI s z ow R K true y c) (g2 : s.2.1 (z + 201) 4 = 0) (g3 : s.2.1 (z + 201) 7 = 0) (hd : FD (IX z ow 3 39) s.2 d') (hb : BK s.1 d' z ow 3 R' y.1) (hp : PB s.1 s.2 z ow R') (hg : GEQ R R') : CI (s.1, d') z ow R' K true y c ∧ RFR z s (s.1, d') := by
  obtain ⟨hK, hw, b1, b2, b3, b4, b5, b6, b7, b8, b9, b10, b11⟩ := h
  have he : ES (IX z ow 3 39) s ow (s.1, d') ow := FD.es (sh := s.1) (d := s.2) hd
  have r0 := es_row hK hw he (i := 0) (by decide) (by omega)
  have r201 := es_row hK hw he (i := 201) (by decide) (by omega)
  exact ⟨⟨hK, hw, hb, bk_ix b2 (Or.inr rfl) hK hw he (by omega), cs_ix b3 hK hw he (by omega), pb_ix hp hK hw he (by omega) (by omega), pb_ix b5 hK hw he (by omega) (by omega), wy_geq (wy_ix b6 hK hw he (by omega)) hg, Or.inl (by rw [r201.1]; exact g2), Or.inl (by rw [r201.1]; exact g3), by rw [r0.1]; exact b9, b10, b11.1, tln_0 (by rw [r201.1]; exact g3)⟩, RFR.ix hK hw he (by omega)⟩
def edj (R : Nat → Int32) (c a : Nat) : Prop := ∃ s, edge R s c a ∨ edge R s a c
theorem hop_ne (hH : HopOK d z R) (hN : WN R) {c a : Nat} (hc : c < 60) (ha : a < 60) : d.1 (z + (79 + c)) a ≠ -1 ↔ ∃ s, edge R s c a := by
  have n1 := hN.2.1.2
  rcases (hH.1 c a hc ha).1 with ⟨h1, h2⟩ | ⟨s, h1, h2, -⟩
  · exact ⟨fun q => absurd h1 q, fun ⟨s, hs⟩ => absurd hs (h2 s)⟩
  · refine ⟨fun _ => ⟨s, h2⟩, fun _ => ?_⟩
    rw [h1]
    have := h2.1
    exact nI_m1 (by omega)
theorem k_joined (hK : KS sh z) (hS : SPN d z) (hH : HopOK d z R) (hN : WN R) {c a : Nat} (hc : c < 60) (ha : a < 60) : Rn (f_X10_areJoined N sh (z + 77) (nI c) (nI a) d) (fun r => (r = 0 ∧ ¬ edj R c a) ∨ (r = 1 ∧ edj R c a)) := by
  unfold f_X10_areJoined f_X10_areJoined_25 f_X10_areJoined_54 f_X10_areJoined_58 f_X10_areJoined_59
  refine rn_t (ks_o hK 77 10 rfl) ?_
  refine rn_f (nI_pos (by omega)) ?_
  refine rn_f (nI_ge (b := 60) hc (by decide)) ?_
  refine rn_f (nI_pos (by omega)) ?_
  refine rn_f (nI_ge (b := 60) ha (by decide)) ?_
  refine rn_f (by decide) ?_
  have e1 := hop_ne hH hN hc ha
  have e2 := hop_ne hH hN ha hc
  refine r_hop hK hS hc ha ?_
  refine rn_ite (fun h1 => ?_) (fun h1 => ?_)
  · obtain ⟨s, hs⟩ := e1.mp h1
    exact ⟨1, rfl, Or.inr ⟨rfl, s, Or.inl hs⟩⟩
  refine r_hop hK hS ha hc ?_
  refine rn_ite (fun h2 => ?_) (fun h2 => ?_)
  · refine ⟨0, rfl, Or.inl ⟨rfl, fun ⟨s, hs⟩ => ?_⟩⟩
    rcases hs with hs | hs
    · exact h1 (e1.mpr ⟨s, hs⟩)
    · exact (e2.mpr ⟨s, hs⟩) h2
  · obtain ⟨s, hs⟩ := e2.mp h2
    exact ⟨1, rfl, Or.inr ⟨rfl, s, Or.inr hs⟩⟩
theorem jn_edj {x a b : Nat} (hW : WS R) (hN : WN R) : jn R (nI x) (nI a) (nI b) ↔ edj R x a ∨ edj R x b := by
  constructor
  · rintro ⟨t, h1, h2, h3 | h3⟩
    · rcases h3 with ⟨h3, h4 | h4⟩
      · exact Or.inl ⟨t, Or.inl ⟨h1, h2, Or.inl ⟨h3, h4⟩⟩⟩
      · exact Or.inr ⟨t, Or.inl ⟨h1, h2, Or.inl ⟨h3, h4⟩⟩⟩
    · rcases h3 with ⟨h3, h4 | h4⟩
      · exact Or.inl ⟨t, Or.inr ⟨h1, h2, Or.inl ⟨h4, h3⟩⟩⟩
      · exact Or.inr ⟨t, Or.inr ⟨h1, h2, Or.inl ⟨h4, h3⟩⟩⟩
  · have one : ∀ e, edj R x e → ∃ t, t < nn R 1 ∧ R (16 + 9 * t + 4) = 0 ∧ ((R (16 + 9 * t + 7) = nI x ∧ R (16 + 9 * t + 8) = nI e) ∨ (R (16 + 9 * t + 8) = nI x ∧ R (16 + 9 * t + 7) = nI e)) := fun e => by
      rintro ⟨t, h | h⟩
      · obtain ⟨h1, h2, h3 | h3⟩ := h
        · exact ⟨t, h1, h2, Or.inl h3⟩
        · exact ⟨t, h1, h2, Or.inr h3.2⟩
      · obtain ⟨h1, h2, h3 | h3⟩ := h
        · exact ⟨t, h1, h2, Or.inr ⟨h3.2, h3.1⟩⟩
        · exact ⟨t, h1, h2, Or.inl ⟨h3.2.2, h3.2.1⟩⟩
    rintro (h | h)
    · obtain ⟨t, h1, h2, h3 | h3⟩ := one a h
      · exact ⟨t, h1, h2, Or.inl ⟨h3.1, Or.inl h3.2⟩⟩
      · exact ⟨t, h1, h2, Or.inr ⟨h3.1, Or.inl h3.2⟩⟩
    · obtain ⟨t, h1, h2, h3 | h3⟩ := one b h
      · exact ⟨t, h1, h2, Or.inl ⟨h3.1, Or.inr h3.2⟩⟩
      · exact ⟨t, h1, h2, Or.inr ⟨h3.1, Or.inr h3.2⟩⟩
theorem k_near (hK : KS sh z) (hR : WF R) (hS : SPN d z) (hH : HopOK d z R) (hM : smp R Rc) (hB : BK sh d z ow 3 Rc q) (hg : g < nn R 2) (ht : t < nn R 1) : f_X11_nearness N sh z (nI g) (nI t) d = some (nI (kn R g t)) := by
  have n0 := hR.1.1.2
  obtain ⟨x, x1, x2⟩ := (hR.2.2.2.1.1 g hg).1
  obtain ⟨a, b, a1, a2, a3, a4, a5⟩ := (hR.2.2.1 t ht).1
  have m1 : nn Rc 1 = nn R 1 := hM.cn (fun t' _ => by omega)
  have m2 : nn Rc 2 = nn R 2 := hM.cn (fun t' _ => by omega)
  refine rn_val ?_
  unfold f_X11_nearness f_X11_nearness_55 f_X11_nearness_83 f_X11_nearness_88 kn
  refine rn_t (ks_o hK 0 11 rfl) ?_
  refine r_now hK 2 15 (by decide) ?_
  refine rn_eq (tb_get (o := 15) (nc := 3) (c := 0) hK (by decide) hB.2.2.1 rfl (by rw [m2]; exact hg) rfl (by decide)) ?_
  have e0 : vG Rc 0 g = nI x := (hM (1366 + 3 * g + 0) (fun t' _ => by omega)).trans x2
  refine r_now hK 1 4 (by decide) ?_
  refine rn_eq (tb_get (o := 4) (nc := 9) (c := 7) hK (by decide) hB.2.1 rfl (by rw [m1]; exact ht) rfl (by decide)) ?_
  have e7 : vS Rc 7 t = nI a := (hM.st (by decide) (by decide)).trans a4
  refine r_now hK 1 4 (by decide) ?_
  refine rn_eq (tb_get (o := 4) (nc := 9) (c := 8) hK (by decide) hB.2.1 rfl (by rw [m1]; exact ht) rfl (by decide)) ?_
  have e8 : vS Rc 8 t = nI b := (hM.st (by decide) (by decide)).trans a5
  rw [e0, e7, e8, x2, a4, a5]
  refine rn_ite (fun h1 => ?_) (fun h1 => ?_)
  · rw [if_pos (Or.inl h1)]
    exact rn_some rfl
  refine rn_ite (fun h2 => ?_) (fun h2 => ?_)
  · rw [if_neg (fun q => q.elim h1 h2)]
    have je := jn_edj (x := x) (a := a) (b := b) hR.2.2.1 hR.1
    rw [← z0 (z := z)]
    refine r_gP hK 0 11 3 77 rfl (by decide) ?_
    refine rn_bind (k_joined hK hS hH hR.1 (by omega) (by omega)) (fun r hr => ?_)
    rcases hr with ⟨rfl, h3⟩ | ⟨rfl, h3⟩
    · refine rn_f (fun q => q rfl) ?_
      refine r_gP hK 0 11 3 77 rfl (by decide) ?_
      refine rn_bind (k_joined hK hS hH hR.1 (by omega) (by omega)) (fun r hr => ?_)
      rcases hr with ⟨rfl, h4⟩ | ⟨rfl, h4⟩
      · rw [ite_n (fun q => (je.mp q).elim h3 h4)]
        exact rn_t rfl (rn_some rfl)
      · rw [ite_p (je.mpr (Or.inr h4))]
        exact rn_f (by decide) (rn_some rfl)
    · rw [ite_p (je.mpr (Or.inl h3))]
      exact rn_t (by decide) (rn_some rfl)
  · rw [if_pos (Or.inr (Decidable.of_not_not h2))]
    exact rn_some rfl
/-- what the gauges told, in the class -/
def HTD (d : Dt) (z : Nat) (R : Nat → Int32) (hh n : Nat) : Prop := ∀ g, g < n → d.2.2.1 (z + 236) g = if tl R hh g then gx R g hh else 3212836864
theorem kfl_loop {Q : Int32 × Dt → Prop} (hK : KS sh z) (hR : WF R) (hS : SPN d z) (hH : HopOK d z R) (hM : smp R Rc) (hB : BK sh d z ow 3 Rc q) (ht : t < nn R 1) (hT : HTD d z R hh (nn R 2)) (hk : Rn (f_X11_fallOn_78 N sh z (nI t) (snA R hh t (nn R 2)).1 (wt (snA R hh t (nn R 2)).2) d) Q) : ∀ (m g fu : Nat), g + m = nn R 2 → m < fu → Rn (f_X11_fallOn_7 N sh fu z (nI t) (snA R hh t g).1 (wt (snA R hh t g).2) (nI g) d) Q
  | 0, g, fu, hg, hf => by
    obtain ⟨fu, rfl⟩ : ∃ q, fu = q + 1 := ⟨fu - 1, by omega⟩
    show Rn (g_X11_fallOn_7 N sh (f_X11_fallOn_7 N sh fu) z (nI t) (snA R hh t g).1 (wt (snA R hh t g).2) (nI g) d) _
    have n2 := hR.1.2.2.1.2
    unfold g_X11_fallOn_7
    refine r_now hK 2 15 (by decide) ?_
    refine r_gI hK (i := 15) (c := 8) rfl ?_
    rw [hB.2.2.1.1, hM.cn (fun t' _ => by omega)]
    refine rn_t (nI_le (by omega) (by omega)) ?_
    have e : g = nn R 2 := by omega
    subst e
    exact hk
  | m + 1, g, fu, hg, hf => by
    obtain ⟨fu, rfl⟩ : ∃ q, fu = q + 1 := ⟨fu - 1, by omega⟩
    have ih := kfl_loop hK hR hS hH hM hB ht hT hk m (g + 1) fu
    show Rn (g_X11_fallOn_7 N sh (f_X11_fallOn_7 N sh fu) z (nI t) (snA R hh t g).1 (wt (snA R hh t g).2) (nI g) d) _
    have n2 := hR.1.2.2.1.2
    have h236 := ks_a hK 236 2 20 rfl
    have e7 : ∀ {β : Type} {Q : β → Prop} {k : Nat → Option β}, Rn (k (z + 236)) Q → Rn ((gP sh z 11 7).bind k) Q := fun h => by
      rw [← z0 (z := z)]
      exact r_gP hK 0 11 7 236 rfl (by decide) h
    unfold g_X11_fallOn_7 f_X11_fallOn_45 f_X11_fallOn_72
    refine r_now hK 2 15 (by decide) ?_
    refine r_gI hK (i := 15) (c := 8) rfl ?_
    rw [hB.2.2.1.1, hM.cn (fun t' _ => by omega), nI_1]
    refine rn_f (nI_ge (by omega) (by omega)) ?_
    refine e7 ?_
    refine rn_eq (q_aF h236 g rfl (by omega) (by decide)) ?_
    rw [hT g (by omega)]
    by_cases h : tl R hh g
    · rw [if_pos h]
      refine rn_t gx_ge ?_
      refine rn_eq (k_near hK hR hS hH hM hB (by omega) ht) ?_
      have k2 := kn_le (R := R) (g := g) (t := t)
      have sn := snA_n (R := R) (hh := hh) (t := t) g
      by_cases h0 : kn R g t = 0
      · refine rn_t (by rw [h0]; decide) ?_
        rw [← snA_s1 h h0]
        exact ih (by omega) (by omega)
      · refine rn_f (nI_nle (by omega) (by omega)) ?_
        refine e7 ?_
        refine rn_eq (q_aF h236 g rfl (by omega) (by decide)) ?_
        rw [hT g (by omega), if_pos h]
        refine rn_eq (v := FP.fmul (gx R g hh) (wt (kn R g t))) (bm_some (xk_bm (by omega)) (by decide)) ?_
        have bs := snA_bm (R := R) (hh := hh) (t := t) (g + 1) (by omega)
        have i2 := ih (by omega) (by omega)
        rw [snA_s2 h h0] at bs i2
        refine rn_eq (v := FP.fadd (snA R hh t g).1 (FP.fmul (gx R g hh) (wt (kn R g t)))) (bm_some bs (by omega)) ?_
        refine rn_eq (v := wt ((snA R hh t g).2 + kn R g t)) ?_ i2
        show o_n32 (FP.fadd (wt (snA R hh t g).2) (wt (kn R g t))) = _
        rw [wt_add (by omega) (by omega)]
        exact wt_some (by omega)
    · rw [if_neg h]
      refine rn_f cm_lt ?_
      refine rn_t (by decide) ?_
      rw [← snA_s0 h]
      exact ih (by omega) (by omega)
theorem k_fallOn (hN1 : 200 ≤ N) (hK : KS sh z) (hw : OWS ow z) (hR : WF R) (hS : SPN d z) (hH : HopOK d z R) (hB : BK sh d z ow 3 (snF R hh t) q) (ht : t < nn R 1) (hT : HTD d z R hh (nn R 2)) : Rn (f_X11_fallOn N sh z (nI t) d) (fun r => r.1 = (if (snA R hh t (nn R 2)).2 = 0 then 0 else 1) ∧ FD (IX z ow 4 5) d r.2 ∧ BK sh r.2 z ow 3 (snF R hh (t + 1)) q) := by
  have n1 := hR.1.2.1.2
  have n2 := hR.1.2.2.1.2
  have sn := snA_n (R := R) (hh := hh) (t := t) (nn R 2)
  have hc := wt_cmp (n := (snA R hh t (nn R 2)).2) (by omega)
  have wF := snF_wn (R := R) (hh := hh) (t := t) hR.1 (by omega)
  have m1 : nn (snF R hh t) 1 = nn R 1 := (snF_smp (by omega)).cn (fun t' _ => by omega)
  have ht4 : tck 4 9 = true := by decide
  unfold f_X11_fallOn
  refine rn_t (ks_o hK 0 11 rfl) ?_
  have h0 : f_X11_fallOn_7 N sh N z (nI t) FP.fconst0 FP.fconst0 (0 : Int32) d = f_X11_fallOn_7 N sh N z (nI t) (snA R hh t 0).1 (wt (snA R hh t 0).2) (nI 0) d := by
    show _ = f_X11_fallOn_7 N sh N z (nI t) FP.fconst0 (wt 0) (nI 0) d
    rw [wt_0]
    rfl
  rw [h0]
  refine kfl_loop hK hR hS hH (snF_smp (by omega)) hB ht hT ?_ (nn R 2) 0 N (by omega) (by omega)
  unfold f_X11_fallOn_78 f_X11_fallOn_89 f_X11_fallOn_145 f_X11_fallOn_164
  have ht2 : t < nn (snF R hh t) 1 := by rw [m1]; exact ht
  by_cases h : (snA R hh t (nn R 2)).2 = 0
  · refine rn_t (hc.mpr h) ?_
    refine rn_t rfl ?_
    refine r_now hK 1 4 (by decide) ?_
    refine rn_t rfl ?_
    refine rn_bind (tb_put (o := 4) (nc := 9) (c := 1) hK hw ht4 hB.2.1 rfl ht2 rfl (by decide)) (fun d1 hd => ?_)
    refine rn_eq (v := (0 : Int32)) rfl (rn_some ⟨(if_pos h).symm, hd.2.mono (fun a ha => tx_ix ht4 hw ha), ?_⟩)
    have e : snF R hh (t + 1) = va_up (snF R hh t) (16 + 9 * t + 1) 1 := if_pos h
    rw [e]
    exact bk_upS (Or.inl rfl) hK hw wF hB ht2 (by decide) hd.1 hd.2
  · refine rn_f (fun q => h (hc.mp q)) ?_
    refine rn_f (by decide) ?_
    have b1 := snA_bm (R := R) (hh := hh) (t := t) (nn R 2) (by omega)
    have b2 := sw_bm (bm_mono b1 (by omega)) (by omega) h
    refine rn_eq (v := FP.fdiv (snA R hh t (nn R 2)).1 (wt (snA R hh t (nn R 2)).2)) (bm_some b2 (by decide)) ?_
    refine rn_eq (v := FP.fmul (FP.fdiv (snA R hh t (nn R 2)).1 (wt (snA R hh t (nn R 2)).2)) 1092616192) (bm_some (bm_mul10 b2 (by decide)) (by decide)) ?_
    refine r_now hK 1 4 (by decide) ?_
    refine r_now hK 1 4 (by decide) ?_
    refine rn_eq (tb_get (o := 4) (nc := 9) (c := 0) hK ht4 hB.2.1 rfl ht2 rfl (by decide)) ?_
    have ev : vS (snF R hh t) 0 t = R (16 + 9 * t + 0) := snF_hi t (by omega)
    rw [ev]
    refine rn_bind (tb_put (o := 4) (nc := 9) (c := 0) (v := snD R hh t) hK hw ht4 hB.2.1 rfl ht2 rfl (by decide)) (fun d1 hd => ?_)
    have k1 := bk_upS (Or.inl rfl) hK hw wF hB ht2 (k := 0) (by decide) hd.1 hd.2
    refine r_now hK 1 4 (by decide) ?_
    refine rn_f (by decide) ?_
    refine rn_bind (tb_put (o := 4) (nc := 9) (c := 1) hK hw ht4 k1.2.1 rfl (by rw [nn_up (by omega)]; exact ht2) rfl (by decide)) (fun d2 hd2 => ?_)
    refine rn_eq (v := (1 : Int32)) rfl (rn_some ⟨(if_neg h).symm, (hd.2.tr hd2.2).mono (fun a ha => tx_ix ht4 hw ha), ?_⟩)
    have e : snF R hh (t + 1) = va_up (va_up (snF R hh t) (16 + 9 * t + 1) 0) (16 + 9 * t + 0) (snD R hh t) := if_neg h
    rw [e, up_cm (by omega)]
    exact bk_upS (Or.inl rfl) hK hw (wn_up wF (by omega)) k1 (by rw [nn_up (by omega)]; exact ht2) (by decide) hd2.1 hd2.2
theorem kss_loop {y1 : YL} (hN1 : 200 ≤ N) (hR : WF R) (c1 : CI s1 z ow R R true y1 c) (g2 : s1.2.1 (z + 201) 4 = 0) (g3 : s1.2.1 (z + 201) 7 = 0) (hH : HopOK s1.2 z R) (hf1 : RFR z s0 s1) (hT : HTD s1.2 z R hh (nn R 2)) : ∀ (m t fu : Nat) (d : Dt), t + m = nn R 1 → m < fu → FD (IX z ow 3 39) s1.2 d → BK s1.1 d z ow 3 (snF R hh t) y1.1 → Rn (f_X11_snow_38 N fu z (nI (snC R hh t)) (nI t) (s1.1, d)) (KO z R K u c (nI (snC R hh (nn R 1)), some (snF R hh (nn R 1))) s0)
  | 0, t, fu, d, ht, hf, hF, hB => by
    obtain ⟨fu, rfl⟩ : ∃ q, fu = q + 1 := ⟨fu - 1, by omega⟩
    show Rn (g_X11_snow_38 N (f_X11_snow_38 N fu) z (nI (snC R hh t)) (nI t) (s1.1, d)) _
    have hK := c1.1
    have n1 := hR.1.2.1.2
    have n3 := hR.1.2.2.2.1.2
    unfold g_X11_snow_38 f_X11_snow_69
    refine r_now hK 1 4 (by decide) ?_
    refine r_gI hK (i := 4) (c := 8) rfl ?_
    rw [hB.2.1.1, (snF_smp (R := R) (hh := hh) (t := t) (by omega)).cn (fun t' _ => by omega)]
    refine rn_t (nI_le (by omega) (by omega)) ?_
    have e : t = nn R 1 := by omega
    subst e
    have sm := snF_smp (R := R) (hh := hh) (t := nn R 1) n1
    have qn := ci_newG c1 g2 g3 hF hB (pb_congr c1.2.2.2.2.2.1 (sm 3 (fun t' _ => by omega)) (fun j hj => sm j (fun t' _ => by omega))) ⟨sm.cn (fun t' _ => by omega), sm.cn (fun t' _ => by omega), fun s k _ h1 h2 => sm.st (by omega) h2⟩
    refine rn_bind (k_answer hK) (fun r hr => rn_some ?_)
    have q3 := ci_lg qn.1 hr.2
    exact ⟨hr.1, (hf1.tr qn.2).tr q3.2, ow, y1, q3.1⟩
  | m + 1, t, fu, d, ht, hf, hF, hB => by
    obtain ⟨fu, rfl⟩ : ∃ q, fu = q + 1 := ⟨fu - 1, by omega⟩
    have ih := kss_loop hN1 hR c1 g2 g3 hH hf1 hT m (t + 1) fu
    show Rn (g_X11_snow_38 N (f_X11_snow_38 N fu) z (nI (snC R hh t)) (nI t) (s1.1, d)) _
    have hK := c1.1
    have hw := c1.2.1
    have n1 := hR.1.2.1.2
    unfold g_X11_snow_38 f_X11_snow_63
    refine r_now hK 1 4 (by decide) ?_
    refine r_gI hK (i := 4) (c := 8) rfl ?_
    rw [hB.2.1.1, (snF_smp (R := R) (hh := hh) (t := t) (by omega)).cn (fun t' _ => by omega)]
    refine rn_f (nI_ge (by omega) (by omega)) ?_
    have row : ∀ i, 77 ≤ i → i ≤ 217 ∨ i = 236 → d.1 (z + i) = s1.2.1 (z + i) ∧ d.2.1 (z + i) = s1.2.2.1 (z + i) ∧ d.2.2.1 (z + i) = s1.2.2.2.1 (z + i) ∧ d.2.2.2 (z + i) = s1.2.2.2.2 (z + i) := fun i h1 h2 => by
      have he : ES (IX z ow 3 39) s1 ow (s1.1, d) ow := FD.es (sh := s1.1) (d := s1.2) hF
      rcases h2 with h2 | h2
      · exact es_row hK hw he (cO_ways h1 h2) (by omega)
      · subst h2
        exact es_row hK hw he (by decide) (by omega)
    have hS2 : SPN d z := ⟨fun x hx => by rw [(row 78 (by decide) (by decide)).2.2.2]; exact c1.spn.1 x hx, fun x hx => by rw [(row 140 (by decide) (by decide)).2.2.2]; exact c1.spn.2 x hx⟩
    have hH2 : HopOK d z R := ⟨fun a b ha hb => by rw [(row (79 + a) (by omega) (by omega)).1, (row 139 (by decide) (by decide)).2.1]; exact hH.1 a b ha hb, fun a b hb ha => by rw [(row 139 (by decide) (by decide)).2.1]; exact hH.2 a b hb ha⟩
    have hT2 : HTD d z R hh (nn R 2) := fun g hg => by
      rw [(row 236 (by decide) (by decide)).2.2.1]
      exact hT g hg
    refine rn_bind (k_fallOn hN1 hK hw hR hS2 hH2 hB (by omega) hT2) (fun r hr => ?_)
    obtain ⟨r1, r2, r3⟩ := hr
    rw [r1, nI_1]
    have es : snC R hh (t + 1) = snC R hh t + if (snA R hh t (nn R 2)).2 = 0 then 0 else 1 := rfl
    have i2 := ih r.2 (by omega) (by omega) (hF.tr (r2.mono (fun a ha => ix_mono ha (by omega) (by omega)))) r3
    by_cases h : (snA R hh t (nn R 2)).2 = 0
    · rw [if_pos h]
      refine rn_t rfl ?_
      rw [if_pos h] at es
      rw [es] at i2
      exact i2
    · rw [if_neg h]
      refine rn_f (by decide) ?_
      rw [if_neg h] at es
      rw [es] at i2
      rw [nI_1]
      exact i2
theorem krg_loop {Q : Dt → Prop} {y1 : YL} (hR : WF R) (hh2 : hh < 200) (hw : OWS ow z) (hQ : ∀ d, CI (s1.1, d) z ow R R true y1 c → RFR z s0 (s1.1, d) → d.1 (z + 201) 4 = 0 → d.1 (z + 201) 7 = 0 → HTD d z R hh (nn R 2) → Q d) : ∀ (m g fu : Nat) (d : Dt), g + m = nn R 2 → m < fu → CI (s1.1, d) z ow R R true y1 c → RFR z s0 (s1.1, d) → d.1 (z + 201) 4 = 0 → d.1 (z + 201) 7 = 0 → HTD d z R hh g → Rn (f_X11_readGauges_2 N s1.1 fu z (nI hh) (nI g) d) Q
  | 0, g, fu, d, hg, hf, hC, hF, g2, g3, hT => by
    obtain ⟨fu, rfl⟩ : ∃ q, fu = q + 1 := ⟨fu - 1, by omega⟩
    show Rn (g_X11_readGauges_2 N s1.1 (f_X11_readGauges_2 N s1.1 fu) z (nI hh) (nI g) d) _
    have hK : KS s1.1 z := hC.1
    have n2 := hR.1.2.2.1.2
    have hB : BK s1.1 d z ow 3 R y1.1 := hC.2.2.1
    unfold g_X11_readGauges_2 f_X11_readGauges_65
    refine r_now hK 2 15 (by decide) ?_
    refine r_gI hK (i := 15) (c := 8) rfl ?_
    rw [hB.2.2.1.1]
    refine rn_t (nI_le (by omega) (by omega)) ?_
    have e : g = nn R 2 := by omega
    subst e
    exact rn_some (hQ d hC hF g2 g3 hT)
  | m + 1, g, fu, d, hg, hf, hC, hF, g2, g3, hT => by
    obtain ⟨fu, rfl⟩ : ∃ q, fu = q + 1 := ⟨fu - 1, by omega⟩
    have ih := krg_loop hR hh2 hw hQ m (g + 1) fu
    show Rn (g_X11_readGauges_2 N s1.1 (f_X11_readGauges_2 N s1.1 fu) z (nI hh) (nI g) d) _
    have hK : KS s1.1 z := hC.1
    have n2 := hR.1.2.2.1.2
    have hg2 : g < nn R 2 := by omega
    have hB : BK s1.1 d z ow 3 R y1.1 := hC.2.2.1
    unfold g_X11_readGauges_2
    refine r_now hK 2 15 (by decide) ?_
    refine r_gI hK (i := 15) (c := 8) rfl ?_
    rw [hB.2.2.1.1]
    refine rn_f (nI_ge (by omega) (by omega)) ?_
    refine r_gP hK 0 11 1 3 rfl (by decide) ?_
    refine rn_eq (k_whyUnread hK hR.2.1 hB hg2) ?_
    refine r_gP hK 0 11 0 1 rfl (by decide) ?_
    refine rn_bind (k_find hK) (fun d1 hd => ?_)
    have q1 := ci_lg (s := (s1.1, d)) hC hd
    have hB1 : BK s1.1 d1 z ow 3 R y1.1 := q1.1.2.2.1
    refine r_gP hK 0 11 7 236 rfl (by decide) ?_
    have h236 := ks_a hK 236 2 20 rfl
    have o236 := hw 236 (by decide) (by decide)
    have fin : ∀ w : UInt32, (w = if tl R hh g then gx R g hh else 3212836864) → Rn (f_X11_readGauges_58 N s1.1 (f_X11_readGauges_2 N s1.1 fu) z (nI hh) (nI g) (z + 236) (nI g) w d1) Q := fun w hw9 => by
      unfold f_X11_readGauges_58
      refine rn_eq (q_sF h236 g rfl (by omega) (by decide)) ?_
      rw [nI_1]
      have fd : FD (IX z ow 236 236) d1 (wF d1 (z + 236) g w) := fun a ha => by
        have hne : a ≠ z + 236 := fun e => ha (by rw [e]; unfold IX; rw [onr_s o236 (by decide)]; omega)
        exact ⟨rfl, rfl, up2_n hne, rfl⟩
      have q2 : CI (s1.1, wF d1 (z + 236) g w) z ow R R true y1 c := ci_fd (s := (s1.1, d1)) q1.1 fd (Or.inr ⟨by decide, by decide⟩)
      have q3 : RFR z (s1.1, d1) (s1.1, wF d1 (z + 236) g w) := fun i h1 h2 => ⟨rfl, rfl, up2_n (by omega), rfl⟩
      refine ih _ (by omega) (by omega) q2 ((hF.tr q1.2).tr q3) ?_ ?_ (fun g' hg' => ?_)
      · show d1.1 (z + 201) 4 = 0
        rw [hd.2 _ (by omega) (by omega)]
        exact g2
      · show d1.1 (z + 201) 7 = 0
        rw [hd.2 _ (by omega) (by omega)]
        exact g3
      · show up2 d1.2.2.1 (z + 236) g w (z + 236) g' = _
        rw [up2_s]
        by_cases e : g' = g
        · subst e
          rw [va_up_s]
          exact hw9
        · rw [va_up_n e, hd.1]
          exact hT g' (by omega)
    have hbt := brs_tl (hh := hh) hR.2.1 hg2
    refine rn_ite (fun h1 => ?_) (fun h1 => ?_)
    · exact fin _ (if_neg (fun q => h1 (hbt.mpr (Or.inl ⟨q.1, q.2.1⟩)))).symm
    have h1 := Decidable.of_not_not h1
    have h2 := (hbt.mp h1).resolve_right (fun q => by omega)
    refine r_gP hK 0 11 1 3 rfl (by decide) ?_
    refine rn_eq (k_height hK hR.1 hR.2.1 hR.2.2.2.1 hB1 hg2 h2.2) ?_
    refine fin _ ?_
    by_cases h3 : R (5426 + 200 * g + hh) = 0
    · rw [if_pos h3, if_pos (show tl R hh g from ⟨h2.1, h2.2, h3⟩)]
    · rw [if_neg h3, if_neg (show ¬ tl R hh g from fun q => h3 q.2.2)]
theorem k_snow {x : Int32} (hNf : 300 ≤ N) (h : CI s z ow R K u y c) (hR : WF R) (hKF : WF K) : Rn (f_X11_snow N z x s) (KO z R K u c (sp_snow R x) s) := by
  have hK := h.1
  have hN := hR.1
  have n1 := hN.2.1.2
  have n2 := hN.2.2.1.2
  have bad : x < 0 ∨ 199 < x → Rn (f_X11_snow_11 N z s) (KO z R K u c (sp_snow R x) s) := fun hb => by
    rw [show sp_snow R x = _ from if_pos hb]
    unfold f_X11_snow_11
    refine rn_bind (k_refuse hK) (fun r hr => rn_some ?_)
    exact ko_lg h hr rfl
  unfold f_X11_snow
  refine rn_t (ks_o hK 0 11 rfl) ?_
  refine rn_ite (fun h1 => bad (Or.inl h1)) (fun h1 => ?_)
  refine rn_ite (fun h2 => ?_) (fun h2 => bad (Or.inr ((lt_pred (n := 200) (by decide)).mpr (Int32.not_lt.mp h2))))
  have hg : ¬ (x < 0 ∨ 199 < x) := fun q => q.elim h1 (fun q => Int32.not_le.mpr h2 ((lt_pred (n := 200) (by decide)).mp q))
  rw [show sp_snow R x = _ from if_neg hg]
  obtain ⟨hh, hh2, rfl, e⟩ := st_of (x := x) (n := 200) (by decide) (fun q => q.elim h1 (fun q => Int32.not_le.mpr h2 q))
  rw [e]
  refine rn_bind (ci_change (by omega) h hR.1 hR.2.1 hKF.1) (fun s1 hs => ?_)
  obtain ⟨f1, g1, g2, g3, ow1, y1, -, c1⟩ := hs
  have hK1 := c1.1
  unfold f_X11_snow_22
  refine rn_bind (P := fun d => CI (s1.1, d) z ow1 R R true y1 c ∧ RFR z s (s1.1, d) ∧ d.1 (z + 201) 4 = 0 ∧ d.1 (z + 201) 7 = 0 ∧ HTD d z R hh (nn R 2)) ?_ (fun d2 hd2 => ?_)
  · unfold f_X11_readGauges
    refine rn_t (ks_o hK1 0 11 rfl) ?_
    exact krg_loop hR hh2 c1.2.1 (fun d a1 a2 a3 a4 a5 => ⟨a1, a2, a3, a4, a5⟩) (nn R 2) 0 N s1.2 (by omega) (by omega) c1 f1 g2 g3 (fun g hg => absurd hg (Nat.not_lt_zero g))
  obtain ⟨c2, f2, k2, k3, hT⟩ := hd2
  refine r_gP hK1 0 11 3 77 rfl (by decide) ?_
  refine rn_bind (k_prepare (by omega) hK1 c2.2.1 hN hR.2.2.1 c2.spn c2.2.2.1.2.1 c2.2.2.2.2.2.2.2.1) (fun d3 hd3 => ?_)
  obtain ⟨w1, w2, w3, w4⟩ := hd3
  have q3 := ci_wy (s := (s1.1, d2)) c2 w1 (Or.inr ⟨w2, w3, w4⟩)
  have r201 : d3.1 (z + 201) = d2.1 (z + 201) := (w1.2 (z + 201) (by omega)).1
  exact kss_loop (s1 := (s1.1, d3)) (by omega) hR q3.1 (by show d3.1 (z + 201) 4 = 0; rw [r201]; exact k2) (by show d3.1 (z + 201) 7 = 0; rw [r201]; exact k3) w3 (f2.tr q3.2) (fun g hg => by show d3.2.2.1 (z + 236) g = _; rw [w1.1]; exact hT g hg) (nn R 1) 0 N d3 (by omega) (by omega) FD.rf q3.1.2.2.1
end SNK
/-! 9n.asks.lean.txt -/
/-! TAKES, PASSES; asks() -/
def kdP (R : Nat → Int32) (p : Nat) : Nat := nn R (9426 + 13 * p)
def kd1 (R : Nat → Int32) (p : Nat) : Nat := nn R (9426 + 13 * nn R (9426 + 13 * p + 3))
def kd2 (R : Nat → Int32) (p : Nat) : Nat := nn R (9426 + 13 * nn R (9426 + 13 * p + 4))
def tkN (k l : Nat) : Nat := (l + ksp k - 1) / ksp k + (if k = 2 then 2 else if k = 3 then 1 else 0)
def tkR (R : Nat → Int32) (p l : Nat) : Nat := if kdP R p = 4 then max (tkN (kd1 R p) l) (tkN (kd2 R p) l) else tkN (kdP R p) l
def rcR (R : Nat → Int32) (p : Nat) : Nat := if kdP R p = 4 then krc (kd1 R p) + krc (kd2 R p) else krc (kdP R p)
def psR (R : Nat → Int32) (p : Nat) (v : Int32) : Int32 := if nI (rcR R p) < v then (if kdP R p = 1 then (if (3 : Int32) * nI (rcR R p) < v then 0 else 3) else (if (2 : Int32) * nI (rcR R p) < v then 0 else 2)) else 1
section ASK
variable {s s' : AS} {sh : Sh} {d d' d0 : Dt} {z : Nat} {ow ow' : Nat → Nat} {R R' K : Nat → Int32} {u : Bool} {y : YL} {c N p k l a : Nat} {q q' : BL} {v : Int32}
theorem ksp_b : 20 ≤ ksp k ∧ ksp k ≤ 50 := by
  unfold ksp
  repeat' split
  all_goals decide
theorem krc_b : krc k ≤ 600 := by
  unfold krc
  repeat' split
  all_goals decide
theorem tkN_b (hl : l ≤ 10000) : tkN k l ≤ 11000 := by
  have h := ksp_b (k := k)
  have := Nat.div_le_self (l + ksp k - 1) (ksp k)
  unfold tkN
  split
  · omega
  · split <;> omega
theorem tkR_b (hl : l ≤ 10000) : tkR R p l ≤ 11000 := by
  have h1 := tkN_b (k := kd1 R p) hl
  have h2 := tkN_b (k := kd2 R p) hl
  have h3 := tkN_b (k := kdP R p) hl
  unfold tkR
  split <;> omega
theorem psR_v : psR R p v = 0 ∨ psR R p v = 1 ∨ psR R p v = 2 ∨ psR R p v = 3 := by
  unfold psR
  repeat' split
  all_goals simp
theorem div_nI (hl : l ≤ 10000) (hl1 : 1 ≤ l) : o_idiv ((nI l + nI (ksp k)) - (1 : Int32)) (nI (ksp k)) = some (nI ((l + ksp k - 1) / ksp k)) := by
  have h := ksp_b (k := k)
  unfold o_idiv
  rw [if_neg (nI_ne0 (by omega) (by omega)), nI_add, show (1 : Int32) = nI 1 from rfl, pk_sub (by omega), pk_div (by omega) (by omega) (by omega)]
theorem bo_lg (h : BO sh d z ow a k) (hl : LG z d d') : BO sh d' z ow a k := by
  obtain ⟨h1, h2, h3, h4, h5, h6, h7, h8⟩ := h
  have e : d'.1 a = d.1 a := hl.2 a (by omega) (by omega)
  exact ⟨h1, h2, h3, h4, by rw [e]; exact h5, by rw [e]; exact h6, h7, h8⟩
theorem bo_isO (h : BO sh d z ow a k) (hk : k ≤ 3) : isO sh a 6 := by
  refine ⟨h.1, h.2.1, ?_⟩
  rw [h.2.2.1]
  rcases (show k = 0 ∨ k = 1 ∨ k = 2 ∨ k = 3 by omega) with rfl | rfl | rfl | rfl <;> simp [kcl]
theorem x6_takes (hK : KS sh z) (hb : BO sh d z ow a k) (hk : k ≤ 3) (hl : l ≤ 10000) (hl1 : 1 ≤ l) : Rn (f_X6_takes N sh a (nI l) d) (fun r => r.1 = nI ((l + ksp k - 1) / ksp k) ∧ LG z d r.2) := by
  have hi := bo_isO hb hk
  have hs := ksp_b (k := k)
  have h8 := hb.2.2.2.2.2.2.2
  unfold f_X6_takes f_X6_takes_37
  refine rn_t hi ?_
  refine rn_eq (v := z + 1) (by unfold gP; rw [if_pos hi]; exact hb.2.2.2.1) ?_
  refine r_gI hK (i := 1) (c := 2) rfl ?_
  refine r_pI hK (i := 1) (c := 2) rfl ?_
  have e : ∀ w, (wI d (z + 1) 2 w).1 a 1 = nI (ksp k) := fun w => by
    rw [wI_n (by omega)]
    exact hb.2.2.2.2.1
  refine rn_eq (v := nI (ksp k)) (by unfold gI; rw [if_pos hi, e]) ?_
  refine rn_f (nI_nle (by omega) (by omega)) ?_
  refine rn_eq (v := nI (ksp k)) (by unfold gI; rw [if_pos hi, e]) ?_
  refine rn_eq (v := nI (ksp k)) (by unfold gI; rw [if_pos hi, e]) ?_
  refine rn_eq (div_nI hl hl1) (rn_some ⟨rfl, LG.w1⟩)
theorem k_takes0 (hK : KS sh z) (hb : BO sh d z ow a k) (hk : k ≤ 3) (hl : l ≤ 10000) (hl1 : 1 ≤ l) : Rn (v_takes0 N sh a (nI l) d) (fun r => r.1 = nI (tkN k l) ∧ LG z d r.2) := by
  have hi := bo_isO hb hk
  have h3 := hb.2.2.1
  have h8 := hb.2.2.2.2.2.2.2
  unfold v_takes0 tkN
  rcases (show k = 0 ∨ k = 1 ∨ k = 2 ∨ k = 3 by omega) with rfl | rfl | rfl | rfl
  · exact rn_t (Or.inl h3) (x6_takes hK hb hk hl hl1)
  · exact rn_t (Or.inr h3) (x6_takes hK hb hk hl hl1)
  · have h3 : sh.2.1 a = 17 := h3
    have hi7 : isO sh a 7 := ⟨hi.1, hi.2.1, Or.inl h3⟩
    refine rn_f (by rw [h3]; decide) (rn_t h3 ?_)
    unfold f_X7_takes
    refine rn_t hi7 ?_
    refine rn_eq (v := z + 1) (by unfold gP; rw [if_pos hi7]; exact hb.2.2.2.1) ?_
    refine r_gI hK (i := 1) (c := 2) rfl ?_
    refine r_pI hK (i := 1) (c := 2) rfl ?_
    refine rn_bind (x6_takes hK (bo_lg hb LG.w1) hk hl hl1) (fun r hr => rn_some ⟨?_, LG.w1.tr hr.2⟩)
    rw [hr.1]
    exact nI_add _ 2
  · have h3 : sh.2.1 a = 19 := h3
    have hi9 : isO sh a 9 := ⟨hi.1, hi.2.1, Or.inl h3⟩
    refine rn_f (by rw [h3]; decide) (rn_f (by rw [h3]; decide) (rn_t h3 ?_))
    unfold f_X9_takes
    refine rn_t hi9 ?_
    refine rn_eq (v := z + 1) (by unfold gP; rw [if_pos hi9]; exact hb.2.2.2.1) ?_
    refine r_gI hK (i := 1) (c := 2) rfl ?_
    refine r_pI hK (i := 1) (c := 2) rfl ?_
    refine rn_bind (x6_takes hK (bo_lg hb LG.w1) hk hl hl1) (fun r hr => rn_some ⟨?_, LG.w1.tr hr.2⟩)
    rw [hr.1]
    exact nI_add _ 1
/-- the kinds of a PAIR's two -/
def WPk (R : Nat → Int32) : Prop := ∀ p, p < nn R 3 → kdP R p ≤ 4 ∧ (kdP R p = 4 → nn R (9426 + 13 * p + 3) < nn R 3 ∧ nn R (9426 + 13 * p + 4) < nn R 3 ∧ kd1 R p ≤ 3 ∧ kd2 R p ≤ 3 ∧ R (9426 + 13 * p + 3) = nI (nn R (9426 + 13 * p + 3)) ∧ R (9426 + 13 * p + 4) = nI (nn R (9426 + 13 * p + 4))) ∧ R (9426 + 13 * p) = nI (kdP R p)
theorem wpk_of (hR : WF R) : WPk R := fun p hp => by
  have n3 := hR.1.2.2.2.1.2
  obtain ⟨h1, h2, -⟩ := hR.2.2.2.2.1 p hp
  refine ⟨h1.2, fun h4 => ?_, h1.1⟩
  obtain ⟨a, b, b1, b2, b3, b4, b5, b6⟩ := h2 h4
  have ea : nn R (9426 + 13 * p + 3) = a := by
    unfold nn
    rw [b3, nI_clamp (by omega)]
  have eb : nn R (9426 + 13 * p + 4) = b := by
    unfold nn
    rw [b4, nI_clamp (by omega)]
  unfold kd1 kd2
  rw [ea, eb]
  exact ⟨b1, b2, b5, b6, b3, b4⟩
theorem k_takes (hK : KS sh z) (hW : WPk R) (hp : p < nn R 3) (hb : BD sh d z ow R p a) (hl : l ≤ 10000) (hl1 : 1 ≤ l) : Rn (v_takes N sh a (nI l) d) (fun r => r.1 = nI (tkR R p l) ∧ LG z d r.2) := by
  have w := hW p hp
  unfold v_takes tkR
  rcases hb with ⟨hk, hb⟩ | ⟨hk, hb⟩
  · have hk : kdP R p ≤ 3 := hk
    have hb : BO sh d z ow a (kdP R p) := hb
    have h3 := hb.2.2.1
    rw [if_neg (show ¬ kdP R p = 4 by omega)]
    refine rn_f ?_ (k_takes0 hK hb hk hl hl1)
    rw [h3]
    rcases (show kdP R p = 0 ∨ kdP R p = 1 ∨ kdP R p = 2 ∨ kdP R p = 3 by omega) with e | e | e | e <;> rw [e] <;> decide
  · have hk : kdP R p = 4 := hk
    obtain ⟨g1, g2, g3, g4, g5, g6, g7, g8, a1, a2, g9, g10, g11, g12⟩ := hb
    have g11 : BO sh d z ow a1 (kd1 R p) := g11
    have g12 : BO sh d z ow a2 (kd2 R p) := g12
    obtain ⟨-, -, k1, k2, -⟩ := w.2.1 hk
    have i3 : isO sh a 3 := ⟨g1, g2, Or.inl g3⟩
    rw [if_pos hk]
    refine rn_t g3 ?_
    unfold f_X3_takes
    refine rn_t i3 ?_
    refine rn_eq (v := z + 1) (by unfold gP; rw [if_pos i3]; exact g4) ?_
    refine r_gI hK (i := 1) (c := 2) rfl ?_
    refine r_pI hK (i := 1) (c := 2) rfl ?_
    refine rn_eq (v := a1) (by unfold gP; rw [if_pos i3]; exact g9) ?_
    refine rn_bind (k_takes0 hK (bo_lg g11 LG.w1) k1 hl hl1) (fun r hr => ?_)
    refine rn_eq (v := a2) (by unfold gP; rw [if_pos i3]; exact g10) ?_
    refine rn_bind (k_takes0 hK (bo_lg g12 (LG.w1.tr hr.2)) k2 hl hl1) (fun r2 hr2 => rn_some ⟨?_, (LG.w1.tr hr.2).tr hr2.2⟩)
    rw [hr.1, hr2.1]
    have t1 := tkN_b (k := kd1 R p) hl
    have t2 := tkN_b (k := kd2 R p) hl
    exact o_max_nI (by omega) (by omega)
theorem upto {m : Int32} {rc : Nat} (hi : isO sh a 6) (h2 : d.1 a 2 = nI rc) : f_X6_passesUpTo N sh a v m d = some (if nI rc < v then (if m * nI rc < v then 0 else m) else 1) := by
  refine rn_val ?_
  unfold f_X6_passesUpTo f_X6_passesUpTo_25
  refine rn_t hi ?_
  refine rn_eq (v := nI rc) (by unfold gI; rw [if_pos hi, h2]) ?_
  refine rn_ite (fun h => ?_) (fun h => ?_)
  · refine rn_eq (v := nI rc) (by unfold gI; rw [if_pos hi, h2]) ?_
    rw [if_pos h]
    refine rn_ite (fun h3 => ?_) (fun h3 => ?_)
    · rw [if_pos h3]
      exact rn_some rfl
    · rw [if_neg h3]
      exact rn_some rfl
  · rw [if_neg h]
    exact rn_some rfl
theorem k_passes (hK : KS sh z) (hW : WPk R) (hp : p < nn R 3) (hb : BD sh d z ow R p a) : Rn (v_passes N sh a v d) (fun r => r.1 = psR R p v ∧ LG z d r.2) := by
  have w := hW p hp
  unfold v_passes psR rcR
  rcases hb with ⟨hk, hb⟩ | ⟨hk, hb⟩
  · have hk : kdP R p ≤ 3 := hk
    have hb : BO sh d z ow a (kdP R p) := hb
    have h3 := hb.2.2.1
    have hi := bo_isO hb hk
    have h8 := hb.2.2.2.2.2.2.2
    have e2 : ∀ w, (wI d (z + 1) 2 w).1 a 2 = nI (krc (kdP R p)) := fun w => by
      rw [wI_n (by omega)]
      exact hb.2.2.2.2.2.1
    rw [if_neg (show ¬ kdP R p = 4 by omega)]
    by_cases h1 : kdP R p = 1
    · rw [h1] at h3
      have h3 : sh.2.1 a = 10 := h3
      have i0 : isO sh a 0 := ⟨hi.1, hi.2.1, Or.inl h3⟩
      refine rn_t h3 ?_
      unfold f_X0_passes
      refine rn_t i0 ?_
      refine rn_eq (v := z + 1) (by unfold gP; rw [if_pos i0]; exact hb.2.2.2.1) ?_
      refine r_gI hK (i := 1) (c := 2) rfl ?_
      refine r_pI hK (i := 1) (c := 2) rfl ?_
      refine rn_eq (upto hi (e2 _)) (rn_some ⟨?_, LG.w1⟩)
      simp only [if_pos h1]
    · have hn : sh.2.1 a ≠ 10 ∧ sh.2.1 a ≠ 13 := by
        rw [h3]
        rcases (show kdP R p = 0 ∨ kdP R p = 2 ∨ kdP R p = 3 by omega) with e | e | e <;> rw [e] <;> decide
      refine rn_f hn.1 (rn_f hn.2 ?_)
      unfold f_X6_passes
      refine rn_t hi ?_
      refine rn_eq (v := z + 1) (by unfold gP; rw [if_pos hi]; exact hb.2.2.2.1) ?_
      refine r_gI hK (i := 1) (c := 2) rfl ?_
      refine r_pI hK (i := 1) (c := 2) rfl ?_
      refine rn_eq (upto hi (e2 _)) (rn_some ⟨?_, LG.w1⟩)
      simp only [if_neg h1]
  · have hk : kdP R p = 4 := hk
    obtain ⟨g1, g2, g3, g4, g5, g6, g7, g8, a1, a2, g9, g10, g11, g12⟩ := hb
    have g6 : d.1 a 2 = nI (krc (kd1 R p) + krc (kd2 R p)) := g6
    have i3 : isO sh a 3 := ⟨g1, g2, Or.inl g3⟩
    have hi : isO sh a 6 := ⟨g1, g2, by rw [g3]; simp⟩
    have e2 : ∀ w, (wI d (z + 1) 2 w).1 a 2 = nI (krc (kd1 R p) + krc (kd2 R p)) := fun w => by
      rw [wI_n (by omega)]
      exact g6
    rw [if_pos hk]
    refine rn_f (by rw [g3]; decide) (rn_t g3 ?_)
    unfold f_X3_passes
    refine rn_t i3 ?_
    refine rn_eq (v := z + 1) (by unfold gP; rw [if_pos i3]; exact g4) ?_
    refine r_gI hK (i := 1) (c := 2) rfl ?_
    refine r_pI hK (i := 1) (c := 2) rfl ?_
    refine rn_eq (upto hi (e2 _)) (rn_some ⟨?_, LG.w1⟩)
    simp only [if_neg (show ¬ kdP R p = 1 by omega)]
/-! the reference -/
theorem m_speedOf (hk : k ≤ 3) : f_X12_speedOf N sh (nI k) d = some (nI (ksp k)) := by
  refine rn_val ?_
  unfold f_X12_speedOf f_X12_speedOf_31
  rcases (show k = 0 ∨ k = 1 ∨ k = 2 ∨ k = 3 by omega) with rfl | rfl | rfl | rfl
  · exact rn_f (by decide) (rn_some rfl)
  · exact rn_t (by decide) (rn_f (by decide) (rn_some rfl))
  · exact rn_t (by decide) (rn_t (by decide) (rn_f (by decide) (rn_some rfl)))
  · exact rn_t (by decide) (rn_t (by decide) (rn_t (by decide) (rn_some rfl)))
theorem m_reachOf (hk : k ≤ 3) : f_X12_reachOf N sh (nI k) d = some (nI (krc k)) := by
  refine rn_val ?_
  unfold f_X12_reachOf f_X12_reachOf_25
  rcases (show k = 0 ∨ k = 1 ∨ k = 2 ∨ k = 3 by omega) with rfl | rfl | rfl | rfl
  · exact rn_t (by decide) (rn_t (by decide) (rn_some rfl))
  · exact rn_f (by decide) (rn_some rfl)
  · exact rn_t (by decide) (rn_t (by decide) (rn_some rfl))
  · exact rn_t (by decide) (rn_f (by decide) (rn_some rfl))
theorem m_takesOf (hK : KS sh z) (hk : k ≤ 3) (hl : l ≤ 10000) (hl1 : 1 ≤ l) : Rn (f_X12_takesOf N sh (z + 242) (nI k) (nI l) d) (fun r => r.1 = nI (tkN k l) ∧ RG z d r.2) := by
  unfold f_X12_takesOf f_X12_takesOf_40 f_X12_takesOf_70 tkN
  refine rn_t (ks_o hK 242 12 rfl) ?_
  refine rn_eq (m_speedOf hk) ?_
  refine rn_eq (div_nI hl hl1) ?_
  refine r_gI hK (i := 242) (c := 12) rfl ?_
  have g4 : ∀ w, RG z d (wI d (z + 242) 4 w) := fun w => RG.w242 (Or.inr (Or.inl rfl))
  rcases (show k = 0 ∨ k = 1 ∨ k = 2 ∨ k = 3 by omega) with rfl | rfl | rfl | rfl
  · refine rn_t (by decide) (rn_t (by decide) ?_)
    refine r_pI hK (i := 242) (c := 12) rfl ?_
    exact rn_t (by decide) (rn_t (by decide) (rn_some ⟨rfl, g4 _⟩))
  · refine rn_t (by decide) (rn_t (by decide) ?_)
    refine r_pI hK (i := 242) (c := 12) rfl ?_
    exact rn_t (by decide) (rn_t (by decide) (rn_some ⟨rfl, g4 _⟩))
  · refine rn_t (by decide) (rn_f (by decide) ?_)
    refine r_pI hK (i := 242) (c := 12) rfl ?_
    exact rn_t (by decide) (rn_f (by decide) (rn_some ⟨nI_add _ 2, g4 _⟩))
  · refine rn_f (by decide) ?_
    refine r_pI hK (i := 242) (c := 12) rfl ?_
    exact rn_f (by decide) (rn_some ⟨nI_add _ 1, g4 _⟩)
theorem m_first (hK : KS sh z) (hN : WN R) (hW : WPk R) (hA : AG (d.1 (z + 243)) R) (hp : p < nn R 3) (h4 : kdP R p = 4) : f_X12_first N sh (z + 242) (nI p) d = some (nI (kd1 R p)) ∧ f_X12_second N sh (z + 242) (nI p) d = some (nI (kd2 R p)) := by
  have n3 := hN.2.2.2.1.2
  obtain ⟨w1, w2, w3, w4, w5, w6⟩ := (hW p hp).2.1 h4
  refine ⟨rn_val ?_, rn_val ?_⟩
  · unfold f_X12_first
    refine rn_t (ks_o hK 242 12 rfl) ?_
    refine rdpl hK hA 3 (by omega) (by decide) rfl ?_
    rw [w5]
    refine rn_eq (m_kindOf hK hA (by omega)) (rn_some ?_)
    exact (hW _ w1).2.2
  · unfold f_X12_second
    refine rn_t (ks_o hK 242 12 rfl) ?_
    refine rdpl hK hA 4 (by omega) (by decide) rfl ?_
    rw [w6]
    refine rn_eq (m_kindOf hK hA (by omega)) (rn_some ?_)
    exact (hW _ w2).2.2
theorem RG.ag (h : RG z d d') (hA : AG (d.1 (z + 243)) R) : AG (d'.1 (z + 243)) R := by
  rw [h.2.1 (z + 243) (by omega) (by omega)]
  exact hA
theorem m_takes (hK : KS sh z) (hN : WN R) (hW : WPk R) (hA : AG (d.1 (z + 243)) R) (hp : p < nn R 3) (hl : l ≤ 10000) (hl1 : 1 ≤ l) : Rn (f_X12_takes N sh (z + 242) (nI p) (nI l) d) (fun r => r.1 = nI (tkR R p l) ∧ RG z d r.2) := by
  have n3 := hN.2.2.2.1.2
  have w := hW p hp
  unfold f_X12_takes f_X12_takes_65 tkR
  refine rn_t (ks_o hK 242 12 rfl) ?_
  refine rn_eq (m_kindOf hK hA (by omega)) ?_
  rw [w.2.2]
  by_cases h4 : kdP R p = 4
  · obtain ⟨w1, w2, w3, w4, w5, w6⟩ := w.2.1 h4
    rw [if_pos h4]
    refine rn_t (by rw [h4]; rfl) ?_
    refine r_gI hK (i := 242) (c := 12) rfl ?_
    refine r_pI hK (i := 242) (c := 12) rfl ?_
    have g4 : ∀ w, RG z d (wI d (z + 242) 4 w) := fun w => RG.w242 (Or.inr (Or.inl rfl))
    refine rn_eq (m_first hK hN hW ((g4 _).ag hA) hp h4).1 ?_
    refine rn_bind (m_takesOf hK w3 hl hl1) (fun r hr => ?_)
    refine rn_eq (m_first hK hN hW (hr.2.ag ((g4 _).ag hA)) hp h4).2 ?_
    refine rn_bind (m_takesOf hK w4 hl hl1) (fun r2 hr2 => ?_)
    have t1 := tkN_b (k := kd1 R p) hl
    have t2 := tkN_b (k := kd2 R p) hl
    rw [hr.1, hr2.1]
    refine rn_ite (fun h5 => ?_) (fun h5 => ?_)
    · refine rn_some ⟨?_, ((g4 _).tr hr.2).tr hr2.2⟩
      rw [Nat.max_eq_right ((nI_leI (by omega) (by omega)).mp h5)]
    · refine rn_some ⟨?_, ((g4 _).tr hr.2).tr hr2.2⟩
      have : ¬ tkN (kd1 R p) l ≤ tkN (kd2 R p) l := fun q => h5 (nI_le q (by omega))
      rw [Nat.max_eq_left (by omega)]
  · rw [if_neg h4]
    refine rn_f (fun e => h4 (nI_inj (b := 4) e (by omega) (by decide))) ?_
    refine rn_eq (m_kindOf hK hA (by omega)) ?_
    rw [w.2.2]
    refine rn_bind (m_takesOf hK (by omega) hl hl1) (fun r hr => rn_some hr)
theorem m_reach (hK : KS sh z) (hN : WN R) (hW : WPk R) (hA : AG (d.1 (z + 243)) R) (hp : p < nn R 3) : f_X12_reach N sh (z + 242) (nI p) d = some (nI (rcR R p)) := by
  have n3 := hN.2.2.2.1.2
  have w := hW p hp
  refine rn_val ?_
  unfold f_X12_reach f_X12_reach_37 rcR
  refine rn_t (ks_o hK 242 12 rfl) ?_
  refine rn_eq (m_kindOf hK hA (by omega)) ?_
  rw [w.2.2]
  by_cases h4 : kdP R p = 4
  · obtain ⟨w1, w2, w3, w4, w5, w6⟩ := w.2.1 h4
    rw [if_pos h4]
    refine rn_f (fun q => q (by rw [h4]; rfl)) ?_
    refine rn_eq (m_first hK hN hW hA hp h4).1 ?_
    refine rn_eq (m_reachOf w3) ?_
    refine rn_eq (m_first hK hN hW hA hp h4).2 ?_
    refine rn_eq (m_reachOf w4) ?_
    rw [nI_add]
    exact rn_some rfl
  · rw [if_neg h4]
    refine rn_t (fun e => h4 (nI_inj (b := 4) e (by omega) (by decide))) ?_
    refine rn_eq (m_kindOf hK hA (by omega)) ?_
    rw [w.2.2]
    exact rn_eq (m_reachOf (by omega)) (rn_some rfl)
theorem m_passes (hK : KS sh z) (hN : WN R) (hW : WPk R) (hA : AG (d.1 (z + 243)) R) (hp : p < nn R 3) : Rn (f_X12_passes N sh (z + 242) (nI p) v d) (fun r => r.1 = psR R p v ∧ RG z d r.2) := by
  have n3 := hN.2.2.2.1.2
  have w := hW p hp
  have g4 : ∀ w, RG z d (wI d (z + 242) 4 w) := fun w => RG.w242 (Or.inr (Or.inl rfl))
  have fin : ∀ v3 t, Rn (f_X12_passes_44 N sh v (nI (rcR R p)) (nI (kdP R p)) (z + 242) v3 t d) (fun r => r.1 = psR R p v ∧ RG z d r.2) := fun v3 t => by
    unfold f_X12_passes_44 f_X12_passes_88 psR
    refine r_pI hK (i := 242) (c := 12) rfl ?_
    refine rn_ite (fun h1 => ?_) (fun h1 => ?_)
    · rw [if_pos h1]
      by_cases h2 : kdP R p = 1
      · rw [if_pos h2]
        refine rn_f (fun q => q (by rw [h2]; rfl)) ?_
        refine rn_ite (fun h3 => ?_) (fun h3 => ?_)
        · rw [if_pos h3]
          exact rn_some ⟨rfl, g4 _⟩
        · rw [if_neg h3]
          exact rn_some ⟨rfl, g4 _⟩
      · rw [if_neg h2]
        refine rn_t (fun e => h2 (nI_inj (b := 1) e (by omega) (by decide))) ?_
        refine rn_ite (fun h3 => ?_) (fun h3 => ?_)
        · rw [if_pos h3]
          exact rn_some ⟨rfl, g4 _⟩
        · rw [if_neg h3]
          exact rn_some ⟨rfl, g4 _⟩
    · rw [if_neg h1]
      exact rn_some ⟨rfl, g4 _⟩
  unfold f_X12_passes
  refine rn_t (ks_o hK 242 12 rfl) ?_
  refine rn_eq (m_reach hK hN hW hA hp) ?_
  refine rn_eq (m_kindOf hK hA (by omega)) ?_
  rw [w.2.2]
  refine r_gI hK (i := 242) (c := 12) rfl ?_
  refine rn_ite (fun _ => ?_) (fun _ => fin _ _)
  exact rn_ite (fun _ => fin _ _) (fun _ => fin _ _)
theorem rr_rg {v : Int32} {d1 : Dt} (hK : KS sh z) (h : RI d z R K u) (hd : RG z d d1) : Rn ((f_X12_says N sh (z + 242) v d1).bind fun r => some (r.1, r.2)) (RR z R K u d) ∧ Rn ((f_X12_refuses N sh (z + 242) v d1).bind fun r => some (r.1, r.2)) (RR z R K u d) := ⟨rr_says hK (ri_rg h hd) hd.mfr, rr_refuses hK (ri_rg h hd) hd.mfr⟩
theorem m_asks {x t w : Int32} (hK : KS sh z) (h : RI d z R K u) (hR : WF R) : Rn (f_X12_asks N sh (z + 242) x t w d) (RR z R K u d) := by
  have hN := hR.1
  have n3 := hN.2.2.2.1.2
  have n1 := hN.2.1.2
  have hW := wpk_of hR
  unfold f_X12_asks f_X12_asks_25 f_X12_asks_166
  refine rn_t (ks_o hK 242 12 rfl) ?_
  refine rn_eq (ri_isPlough hK h hN) ?_
  refine rn_ite (fun _ => rr_refuses hK h MFR.rf) (fun h1 => ?_)
  obtain ⟨p, hp, rfl, -⟩ := st_of (by omega) (fun q => h1 (ite01.mpr q))
  refine rn_eq (ri_isStreet hK h hN) ?_
  refine rn_ite (fun _ => rr_refuses hK h MFR.rf) (fun h2 => ?_)
  obtain ⟨i, hi, rfl, -⟩ := st_of (by omega) (fun q => h2 (ite01.mpr q))
  obtain ⟨-, ⟨l1, l2, l3⟩, -⟩ := hR.2.2.1 i hi
  refine rn_eq m_in ?_
  refine rn_ite (fun h3 => ?_) (fun _ => rr_refuses hK h MFR.rf)
  refine rdpl hK h.1 2 (by omega) (by decide) rfl ?_
  refine rn_ite (fun _ => ?_) (fun _ => rr_refuses hK h MFR.rf)
  refine rn_ite (fun _ => ?_) (fun _ => ?_)
  · refine rn_bind (P := fun _ => True) ?_ (fun v _ => rr_says hK h MFR.rf)
    have wk := hW p hp
    unfold f_X12_speed f_X12_speed_39
    refine rn_t (ks_o hK 242 12 rfl) ?_
    refine rn_eq (m_kindOf hK h.1 (by omega)) ?_
    rw [wk.2.2]
    by_cases h4 : kdP R p = 4
    · obtain ⟨w1, w2, w3, w4, w5, w6⟩ := wk.2.1 h4
      refine rn_f (fun q => q (by rw [h4]; rfl)) ?_
      refine rn_eq (m_first hK hN hW h.1 hp h4).1 ?_
      refine rn_eq (m_speedOf w3) ?_
      refine rn_eq (m_first hK hN hW h.1 hp h4).2 ?_
      refine rn_eq (m_speedOf w4) ?_
      exact rn_eq m_lesser (rn_some trivial)
    · refine rn_t (fun e => h4 (nI_inj (b := 4) e (by omega) (by decide))) ?_
      refine rn_eq (m_kindOf hK h.1 (by omega)) ?_
      rw [wk.2.2]
      exact rn_eq (m_speedOf (by omega)) (rn_some trivial)
  refine rn_ite (fun _ => rn_eq (m_reach hK hN hW h.1 hp) (rr_says hK h MFR.rf)) (fun _ => ?_)
  refine rn_ite (fun _ => ?_) (fun _ => ?_)
  · refine rds hK h.1 6 (by omega) (by decide) rfl ?_
    rw [l1]
    refine rn_bind (m_takes hK hN hW h.1 hp l3 l2) (fun r hr => ?_)
    exact (rr_rg hK h hr.2).1
  · refine rds hK h.1 0 (by omega) (by decide) rfl ?_
    refine rn_bind (m_passes hK hN hW h.1 hp) (fun r hr => ?_)
    exact rn_ite (fun _ => (rr_rg hK h hr.2).1) (fun _ => (rr_rg hK h hr.2).2)
theorem k_asks {x t w : Int32} (h : CI s z ow R K u y c) (hR : WF R) : Rn (f_X11_asks N s.1 z x t w s.2) (KR z R K u c s) := by
  have hK := h.1
  have hN := hR.1
  have n3 := hN.2.2.2.1.2
  have n1 := hN.2.1.2
  have hW := wpk_of hR
  have hB : BK s.1 s.2 z ow 3 R y.1 := h.2.2.1
  have fin : ∀ (v : Int32) d1, LG z s.2 d1 → Rn ((f_X11_answer N s.1 z v d1).bind fun r => some (r.1, r.2)) (KR z R K u c s) ∧ Rn ((f_X11_refuse N s.1 z v d1).bind fun r => some (r.1, r.2)) (KR z R K u c s) := fun v d1 hd => by
    have q := ci_lg h hd
    exact ⟨rn_bind (k_answer hK) (fun r hr => rn_some (kr_lg q.1 q.2 hr)), rn_bind (k_refuse hK) (fun r hr => rn_some (kr_lg q.1 q.2 hr))⟩
  unfold f_X11_asks f_X11_asks_37 f_X11_asks_178
  refine rn_t (ks_o hK 0 11 rfl) ?_
  refine r_now hK 3 20 (by decide) ?_
  refine rn_eq (tb_has (o := 20) (nc := 9) hK (by decide) hB.2.2.2.1) ?_
  refine rn_ite (fun _ => kr_refuses h) (fun h1 => ?_)
  obtain ⟨p, hp, rfl, -⟩ := st_of (by omega) (fun q => h1 (ite01.mpr q))
  refine r_now hK 1 4 (by decide) ?_
  refine rn_eq (tb_has (o := 4) (nc := 9) hK (by decide) hB.2.1) ?_
  refine rn_ite (fun _ => kr_refuses h) (fun h2 => ?_)
  obtain ⟨i, hi, rfl, -⟩ := st_of (by omega) (fun q => h2 (ite01.mpr q))
  obtain ⟨-, ⟨l1, l2, l3⟩, -⟩ := hR.2.2.1 i hi
  refine rn_ite (fun _ => kr_refuses h) (fun h3 => ?_)
  refine rn_ite (fun h4 => ?_) (fun _ => kr_refuses h)
  refine r_gP hK 0 11 1 3 rfl (by decide) ?_
  refine rn_eq (k_isOut (Or.inl rfl) hR hK hB.2.2.2.1 hp) ?_
  refine rn_ite (fun _ => ?_) (fun _ => kr_refuses h)
  obtain ⟨a, a1, a2, a3, a4⟩ := k_body hK h.2.2.2.2.2.1 hp hN
  have a4 : BD s.1 s.2 z ow R p a := a4
  have hi6 : isO s.1 a 6 := by
    rcases a4 with ⟨q1, q2⟩ | ⟨q1, q2⟩
    · exact bo_isO q2 q1
    · exact ⟨q2.1, q2.2.1, by rw [q2.2.2.1]; simp⟩
  refine r_gP hK 0 11 6 235 rfl (by decide) ?_
  refine rn_eq a1 ?_
  refine rn_ite (fun _ => ?_) (fun _ => ?_)
  · exact rn_eq (v := s.2.1 a 1) (by unfold gI; rw [if_pos hi6]) (kr_says h)
  refine rn_ite (fun _ => ?_) (fun _ => ?_)
  · exact rn_eq (v := s.2.1 a 2) (by unfold gI; rw [if_pos hi6]) (kr_says h)
  refine rn_ite (fun _ => ?_) (fun _ => ?_)
  · refine r_now hK 1 4 (by decide) ?_
    refine rn_eq (tb_get (o := 4) (nc := 9) (c := 6) hK (by decide) hB.2.1 rfl hi rfl (by decide)) ?_
    have ev : vS R 6 i = nI (sln R i) := l1
    rw [ev]
    refine rn_bind (k_takes hK hW hp a4 l3 l2) (fun r hr => ?_)
    exact (fin _ _ hr.2).1
  · refine r_now hK 1 4 (by decide) ?_
    refine rn_eq (tb_get (o := 4) (nc := 9) (c := 0) hK (by decide) hB.2.1 rfl hi rfl (by decide)) ?_
    refine rn_bind (k_passes hK hW hp a4) (fun r hr => ?_)
    exact rn_ite (fun _ => (fin _ _ hr.2).1) (fun _ => (fin _ _ hr.2).2)
end ASK
/-! 9o.split.lean.txt -/
/-! split(): PARTS, and the reference -/
def psN (R : Nat → Int32) (p i : Nat) : Nat := if R (9642 + 3 * i + 2) = 1 then (psR R p (R (16 + 9 * nn R (9642 + 3 * i) + 0))).toNatClampNeg else 1
def miR (R : Nat → Int32) (p i : Nat) : Nat := psN R p i * tkR R p (sln R (nn R (9642 + 3 * i)))
abbrev fit (R : Nat → Int32) (p i sum : Nat) : Prop := psN R p i ≠ 0 ∧ sum + miR R p i ≤ nn R (9426 + 13 * p + 1)
/-- the DRIVES that a PLOUGH takes from i on: where it ends, its MINUTES -/
def tkF (R : Nat → Int32) (p : Nat) : Nat → Nat → Nat → Nat × Nat
  | 0, i, sum => (i, sum)
  | m + 1, i, sum => if fit R p i sum then tkF R p m (i + 1) (sum + miR R p i) else (i, sum)
def spT (R : Nat → Int32) (p i : Nat) : Nat × Nat := if R (9426 + 13 * p + 2) = 1 then (i, 0) else tkF R p (nn R 4 - i) i 0
def spF (R : Nat → Int32) : Nat → Nat
  | 0 => 0
  | p + 1 => (spT R p (spF R p)).1
def spM (R : Nat → Int32) (p : Nat) : Nat := (spT R p (spF R p)).2
def slP (R : Nat → Int32) (p a b c : Nat) : Nat → Int32 := va_up (va_up (va_up (va_up R (9426 + 13 * p + 5) 1) (9426 + 13 * p + 6) (nI a)) (9426 + 13 * p + 7) (nI b)) (9426 + 13 * p + 10) (nI c)
def slF (R : Nat → Int32) : Nat → Nat → Int32
  | 0 => R
  | p + 1 => if R (9426 + 13 * p + 2) = 1 then lpR (slF R p) p else slP (lpR (slF R p) p) p (spF R p) (spF R (p + 1) - spF R p) (spM R p)
def sp_split (R : Nat → Int32) : Int32 × Option (Nat → Int32) := if nn R 4 ≤ spF R (nn R 3) then (1, some (slF R (nn R 3))) else (0, none)
theorem rn_and {α : Type} {o : Option α} {P Q : α → Prop} (h1 : Rn o P) (h2 : Rn o Q) : Rn o (fun r => P r ∧ Q r) := by
  obtain ⟨r, e, hr⟩ := h1
  obtain ⟨r2, e2, hr2⟩ := h2
  rw [e] at e2
  cases e2
  exact ⟨r, e, hr, hr2⟩
section SPL
variable {s s' : AS} {sh : Sh} {d d' d0 : Dt} {z : Nat} {ow ow' : Nat → Nat} {R R' K : Nat → Int32} {u : Bool} {y : YL} {c N p k l a i : Nat} {q q' : BL} {v : Int32}
theorem psN_le : psN R p i ≤ 3 := by
  unfold psN
  split
  · rcases psR_v (R := R) (p := p) (v := R (16 + 9 * nn R (9642 + 3 * i) + 0)) with e | e | e | e <;> rw [e] <;> decide
  · decide
theorem psR_nI : psR R p v = nI (psR R p v).toNatClampNeg := by
  rcases psR_v (R := R) (p := p) (v := v) with e | e | e | e <;> rw [e] <;> rfl
theorem tkF_b : ∀ (m i sum : Nat), i ≤ (tkF R p m i sum).1 ∧ (tkF R p m i sum).1 ≤ i + m ∧ (sum ≤ nn R (9426 + 13 * p + 1) → (tkF R p m i sum).2 ≤ nn R (9426 + 13 * p + 1))
  | 0, i, sum => ⟨Nat.le_refl _, Nat.le_refl _, fun h => h⟩
  | m + 1, i, sum => by
    have ih := tkF_b m (i + 1) (sum + miR R p i)
    show i ≤ (if fit R p i sum then tkF R p m (i + 1) (sum + miR R p i) else (i, sum)).1 ∧ (if fit R p i sum then tkF R p m (i + 1) (sum + miR R p i) else (i, sum)).1 ≤ i + (m + 1) ∧ (sum ≤ nn R (9426 + 13 * p + 1) → (if fit R p i sum then tkF R p m (i + 1) (sum + miR R p i) else (i, sum)).2 ≤ nn R (9426 + 13 * p + 1))
    split
    · rename_i hf
      exact ⟨by omega, by omega, fun _ => ih.2.2 hf.2⟩
    · exact ⟨Nat.le_refl _, by omega, fun h => h⟩
theorem spF_b : ∀ p, spF R p ≤ nn R 4 ∧ spF R p ≤ spF R (p + 1)
  | p => by
    have h0 : spF R p ≤ nn R 4 := by
      cases p with
      | zero => exact Nat.zero_le _
      | succ p =>
        have ih := (spF_b p).1
        have t := tkF_b (R := R) (p := p) (nn R 4 - spF R p) (spF R p) 0
        show (spT R p (spF R p)).1 ≤ nn R 4
        unfold spT
        split
        · exact ih
        · omega
    refine ⟨h0, ?_⟩
    have t := tkF_b (R := R) (p := p) (nn R 4 - spF R p) (spF R p) 0
    show spF R p ≤ (spT R p (spF R p)).1
    unfold spT
    split
    · exact Nat.le_refl _
    · exact t.1
theorem spM_b : spM R p ≤ nn R (9426 + 13 * p + 1) := by
  have t := tkF_b (R := R) (p := p) (nn R 4 - spF R p) (spF R p) 0
  unfold spM spT
  split
  · exact Nat.zero_le _
  · exact t.2.2 (Nat.zero_le _)
/-- only the reference's state is touched -/
def W43 (z : Nat) (d d' : Dt) : Prop := d'.2 = d.2 ∧ ∀ a, a ≠ z + 243 → d'.1 a = d.1 a
theorem W43.rf : W43 z d d := ⟨rfl, fun _ _ => rfl⟩
theorem W43.w {k : Nat} {v : Int32} (h : W43 z d0 d) : W43 z d0 (wI d (z + 243) k v) := ⟨h.1, fun a q => (wI_n q).trans (h.2 a q)⟩
theorem W43.tr {d1 d2 : Dt} (h1 : W43 z d d1) (h2 : W43 z d1 d2) : W43 z d d2 := ⟨h2.1.trans h1.1, fun a q => (h2.2 a q).trans (h1.2 a q)⟩
theorem W43.mfr (h : W43 z d d') : MFR z d d' := ⟨by rw [h.1], by rw [h.1], fun a q => ⟨h.2 a (by omega), by rw [h.1]⟩⟩
theorem lose_loop2 (hK : KS sh z) (hN : WN R) (hp : p < 12) : ∀ (m k fu : Nat) (d : Dt), k + m = 8 → m < fu → W43 z d0 d → RI d z (zrF R (9426 + 13 * p + 5) k) K u → Rn (f_X12_losesPart_2 N sh fu (z + 242) (nI p) (nI (5 + k)) d) (fun d' => W43 z d0 d' ∧ RI d' z (lpR R p) K u)
  | 0, k, fu, d, hk, hf, hM, hI => by
    obtain ⟨fu, rfl⟩ : ∃ q, fu = q + 1 := ⟨fu - 1, by omega⟩
    show Rn (g_X12_losesPart_2 N sh (f_X12_losesPart_2 N sh fu) (z + 242) (nI p) (nI (5 + k)) d) _
    unfold g_X12_losesPart_2 f_X12_losesPart_27
    have ek : k = 8 := by omega
    subst ek
    exact rn_t (by decide) (rn_some ⟨hM, hI⟩)
  | m + 1, k, fu, d, hk, hf, hM, hI => by
    obtain ⟨fu, rfl⟩ : ∃ q, fu = q + 1 := ⟨fu - 1, by omega⟩
    have ih := lose_loop2 hK hN hp m (k + 1) fu
    show Rn (g_X12_losesPart_2 N sh (f_X12_losesPart_2 N sh fu) (z + 242) (nI p) (nI (5 + k)) d) _
    unfold g_X12_losesPart_2
    refine rn_f (nI_ge (a := 5 + k) (b := 13) (by omega) (by decide)) ?_
    refine wrpl hK (5 + k) hp (by omega) rfl ?_
    rw [nI_1, ← Nat.add_assoc (9426 + 13 * p) 5 k]
    refine ih _ (by omega) (by omega) hM.w ?_
    have r := ri_cellG (j := 9426 + 13 * p + 5 + k) (v := 0) hI (zr_wn hN (by omega) k) (by omega) (fun s k _ q1 q2 => by omega)
    rw [zr_s] at r
    exact r
theorem m_losesPart2 (hN1 : 100 ≤ N) (hK : KS sh z) (hN : WN R) (hp : p < 12) (hI : RI d z R K u) : Rn (f_X12_losesPart N sh (z + 242) (nI p) d) (fun d' => W43 z d d' ∧ RI d' z (lpR R p) K u) := by
  unfold f_X12_losesPart
  refine rn_t (ks_o hK 242 12 rfl) ?_
  exact lose_loop2 hK hN hp 8 0 N d (by omega) (by omega) W43.rf (by rw [zr_0]; exact hI)
theorem wd_at (hR : WF R) (hi : i < nn R 4) : nn R (9642 + 3 * i) < nn R 1 ∧ R (9642 + 3 * i) = nI (nn R (9642 + 3 * i)) ∧ (R (9642 + 3 * i + 2) = 0 ∨ R (9642 + 3 * i + 2) = 1) := by
  have h := wd_e hR hi
  obtain ⟨t, c, h1, h2, h3, h4, h5⟩ := hR.2.2.2.2.2 i hi
  exact ⟨h.1, h.2, h5⟩
/-- MINUTES of a DRIVE as the reference has them -/
def mnI (R : Nat → Int32) (p i : Nat) : Int32 := if psN R p i = 0 then -1 else nI (miR R p i)
theorem mi_b (hR : WF R) (hi : i < nn R 4) : miR R p i ≤ 33000 := by
  have h := wd_at hR hi
  obtain ⟨-, ⟨-, -, l3⟩, -⟩ := hR.2.2.1 _ h.1
  have t := tkR_b (R := R) (p := p) l3
  have s := psN_le (R := R) (p := p) (i := i)
  unfold miR
  calc psN R p i * tkR R p (sln R (nn R (9642 + 3 * i))) ≤ 3 * 11000 := Nat.mul_le_mul s t
    _ = 33000 := rfl
theorem m_minutes (hR : WF R) (hK : KS sh z) (hA : AG (d.1 (z + 243)) R) (hp : p < nn R 3) (hi : i < nn R 4) : Rn (f_X12_minutes N sh (z + 242) (nI p) (nI i) d) (fun r => r.1 = mnI R p i ∧ RG z d r.2) := by
  have hN := hR.1
  have n4 := hN.2.2.2.2.2
  have n1 := hN.2.1.2
  have hW := wpk_of hR
  obtain ⟨w1, w2, w3⟩ := wd_at hR hi
  obtain ⟨-, ⟨l1, l2, l3⟩, -⟩ := hR.2.2.1 _ w1
  unfold f_X12_minutes f_X12_minutes_90 mnI miR
  refine rn_t (ks_o hK 242 12 rfl) ?_
  refine rdd0 hK hA (by omega) ?_
  rw [w2]
  refine rn_eq (m_st hK) ?_
  refine rdd hK hA (by omega) 2 (by decide) rfl ?_
  rcases w3 with e | e
  · have e1 : psN R p i = 1 := if_neg (by rw [e]; decide)
    rw [e1, if_neg (show ¬ (1 : Nat) = 0 by decide), Nat.one_mul]
    refine rn_f (fun q => q e) ?_
    refine rst hK hA 6 (by omega) (by decide) rfl ?_
    rw [l1]
    refine rn_bind (m_takes hK hN hW hA hp l3 l2) (fun r hr => rn_some hr)
  · have e1 : psN R p i = (psR R p (R (16 + 9 * nn R (9642 + 3 * i) + 0))).toNatClampNeg := if_pos e
    refine rn_t (by rw [e]; decide) ?_
    refine rst hK hA 0 (by omega) (by decide) rfl ?_
    refine rn_bind (m_passes hK hN hW hA hp) (fun r hr => ?_)
    have e2 := psR_nI (R := R) (p := p) (v := R (16 + 9 * nn R (9642 + 3 * i) + 0))
    rw [← e1] at e2
    rw [hr.1, e2]
    have s := psN_le (R := R) (p := p) (i := i)
    by_cases h0 : psN R p i = 0
    · rw [h0, if_pos rfl]
      exact rn_f (fun q => q rfl) (rn_some ⟨rfl, hr.2⟩)
    · rw [if_neg h0]
      refine rn_t (nI_ne0 (by omega) (by omega)) ?_
      refine rst hK (hr.2.ag hA) 6 (by omega) (by decide) rfl ?_
      rw [l1]
      refine rn_bind (m_takes hK hN hW (hr.2.ag hA) hp l3 l2) (fun r2 hr2 => rn_some ⟨?_, hr.2.tr hr2.2⟩)
      rw [hr2.1]
      exact pk_mul _ _
/-- what the first p PLOUGHS took -/
def SPA (d : Dt) (z : Nat) (R : Nat → Int32) (p : Nat) : Prop := ∀ p', p' < p → d.1 (z + 261) p' = nI (spF R p') ∧ d.1 (z + 262) p' = nI (spF R (p' + 1)) ∧ d.1 (z + 263) p' = nI (spM R p')
theorem spa_rg (h : SPA d z R p) (hd : RG z d d') : SPA d' z R p := fun p' hp' => by
  rw [hd.2.1 (z + 261) (by omega) (by omega), hd.2.1 (z + 262) (by omega) (by omega), hd.2.1 (z + 263) (by omega) (by omega)]
  exact h p' hp'
theorem wp_min (hR : WF R) (hp : p < nn R 3) : R (9426 + 13 * p + 1) = nI (nn R (9426 + 13 * p + 1)) ∧ nn R (9426 + 13 * p + 1) ≤ 10000 ∧ (R (9426 + 13 * p + 2) = 0 ∨ R (9426 + 13 * p + 2) = 1) := by
  obtain ⟨-, -, h1, h2, -⟩ := hR.2.2.2.2.1 p hp
  exact ⟨h1.1, h1.2, h2⟩
theorem ms_end {Q : Int32 × Dt → Prop} {k4 : Nat → Int32 → Int32 → Dt → Option (Int32 × Dt)} (hK : KS sh z) (hp : p < 12) (hI : RI d z R K u) (hM : MFR z d0 d) (hS : SPA d z R p) (h1 : d.1 (z + 261) p = nI (spF R p)) (h3 : d.1 (z + 263) p = nI (spM R p)) (hk : ∀ d', MFR z d0 d' → RI d' z R K u → SPA d' z R (p + 1) → Rn (k4 (z + 242) (nI (spF R (p + 1))) (nI (p + 1)) d') Q) : Rn (f_X12_split_140 N sh k4 (z + 242) (nI (spF R (p + 1))) (nI p) d) Q := by
  unfold f_X12_split_140
  refine r_gP hK 242 12 30 262 rfl (by decide) ?_
  refine rn_eq (q_sI (ks_a hK 262 0 12 rfl) p rfl hp (by decide)) ?_
  rw [nI_1]
  refine hk _ (hM.tr (MFR.wI (by decide) (by decide))) (ri_o hI (by decide) (by decide)) (fun p' hp' => ?_)
  rw [wI_n (show z + 261 ≠ z + 262 by omega), wI_n (show z + 263 ≠ z + 262 by omega), wI_s]
  by_cases e : p' = p
  · subst e
    rw [va_up_s]
    exact ⟨h1, rfl, h3⟩
  · rw [va_up_n e]
    exact hS p' (by omega)
theorem ms_in {Q : Int32 × Dt → Prop} {k4 : Nat → Int32 → Int32 → Dt → Option (Int32 × Dt)} (hR : WF R) (hK : KS sh z) (hp : p < nn R 3) (hk : ∀ d', MFR z d0 d' → RI d' z R K u → SPA d' z R (p + 1) → Rn (k4 (z + 242) (nI (spF R (p + 1))) (nI (p + 1)) d') Q) : ∀ (m i sum fu : Nat) (d : Dt), i + m = nn R 4 → m + 1 < fu → sum ≤ nn R (9426 + 13 * p + 1) → tkF R p m i sum = (spF R (p + 1), spM R p) → MFR z d0 d → RI d z R K u → SPA d z R p → d.1 (z + 261) p = nI (spF R p) → d.1 (z + 263) p = nI sum → Rn (f_X12_split_49 N sh k4 fu (z + 242) (nI i) (nI p) 1 d) Q
  | m, i, sum, fu, d, hi, hf, hs, ht, hM, hI, hS, h1, h3 => by
    obtain ⟨fu, rfl⟩ : ∃ q, fu = q + 1 := ⟨fu - 1, by omega⟩
    show Rn (g_X12_split_49 N sh k4 (f_X12_split_49 N sh k4 fu) (z + 242) (nI i) (nI p) 1 d) _
    have n4 := hR.1.2.2.2.2
    have n3 := hR.1.2.2.2.1.2
    obtain ⟨w1, w2, w3⟩ := wp_min hR hp
    unfold g_X12_split_49
    refine rn_f (by decide) ?_
    refine rdg hK hI.1 4 rfl (by decide) ?_
    rw [n4.1]
    cases m with
    | zero =>
      refine rn_t (nI_le (by omega) (by omega)) ?_
      have e : (i, sum) = (spF R (p + 1), spM R p) := ht
      injection e with e1 e2
      rw [e1]
      exact ms_end hK (by omega) hI hM hS h1 (by rw [h3, e2]) hk
    | succ m =>
      refine rn_f (nI_ge (by omega) (by omega)) ?_
      have hi4 : i < nn R 4 := by omega
      refine rn_bind (m_minutes hR hK hI.1 hp hi4) (fun r hr => ?_)
      have hI1 := ri_rg hI hr.2
      have hM1 := hM.tr hr.2.mfr
      have hS1 := spa_rg hS hr.2
      have h11 : r.2.1 (z + 261) p = nI (spF R p) := by rw [hr.2.2.1 _ (by omega) (by omega)]; exact h1
      have h31 : r.2.1 (z + 263) p = nI sum := by rw [hr.2.2.1 _ (by omega) (by omega)]; exact h3
      have hmb := mi_b (p := p) hR hi4
      have a263 := ks_a hK 263 0 12 rfl
      have no : ¬ fit R p i sum → ∀ w, Rn (f_X12_split_104 N sh k4 (f_X12_split_49 N sh k4 fu) (z + 242) (nI i) (nI p) w r.2) Q := fun hn w => by
        have e : (i, sum) = (spF R (p + 1), spM R p) := (if_neg hn).symm.trans ht
        injection e with e1 e2
        unfold f_X12_split_104 f_X12_split_105 f_X12_split_123 f_X12_split_135
        refine r_gP hK 242 12 31 263 rfl (by decide) ?_
        refine rn_eq (q_aT a263 p rfl (by omega) (by decide)) ?_
        refine rn_t rfl ?_
        refine rn_eq (q_sI a263 p rfl (by omega) (by decide)) ?_
        refine rn_t rfl ?_
        rw [h31, show nI sum + 0 = nI sum from nI_add sum 0, show nI i + 0 = nI i from nI_add i 0]
        obtain ⟨fu, rfl⟩ : ∃ q, fu = q + 1 := ⟨fu - 1, by omega⟩
        show Rn (g_X12_split_49 N sh k4 (f_X12_split_49 N sh k4 fu) (z + 242) (nI i) (nI p) 0 _) _
        unfold g_X12_split_49
        refine rn_t rfl ?_
        rw [e1]
        refine ms_end hK (by omega) (ri_o hI1 (by decide) (by decide)) (hM1.tr (MFR.wI (by decide) (by decide))) (fun p' hp' => ?_) ?_ ?_ hk
        · rw [wI_n (show z + 261 ≠ z + 263 by omega), wI_n (show z + 262 ≠ z + 263 by omega), wI_s, va_up_n (by omega)]
          exact hS1 p' hp'
        · rw [wI_n (by omega)]
          exact h11
        · rw [wI_s, va_up_s, e2]
      rw [hr.1]
      unfold mnI
      by_cases h0 : psN R p i = 0
      · rw [if_pos h0]
        refine rn_t (by decide) ?_
        exact no (fun q => q.1 h0) _
      rw [if_neg h0]
      refine rn_f (nI_pos (by omega)) ?_
      refine r_gP hK 242 12 31 263 rfl (by decide) ?_
      refine rn_eq (q_aT a263 p rfl (by omega) (by decide)) ?_
      rw [h31, nI_add]
      refine rdpl hK hI1.1 1 (by omega) (by decide) rfl ?_
      rw [w1]
      refine rn_ite (fun h5 => ?_) (fun h5 => ?_)
      · exact no (fun q => by
          have := (nI_ltI (by omega) (by omega)).mp h5
          have := q.2
          omega) _
      have hfit : fit R p i sum := ⟨h0, by
        rcases Nat.lt_or_ge (nn R (9426 + 13 * p + 1)) (sum + miR R p i) with q | q
        · exact absurd (nI_lt q (by omega)) h5
        · exact q⟩
      have ih := ms_in hR hK hp hk m (i + 1) (sum + miR R p i) fu
      unfold f_X12_split_105 f_X12_split_123 f_X12_split_135
      refine r_gP hK 242 12 31 263 rfl (by decide) ?_
      refine rn_eq (q_aT a263 p rfl (by omega) (by decide)) ?_
      refine rn_f (by decide) ?_
      refine rn_eq (q_sI a263 p rfl (by omega) (by decide)) ?_
      refine rn_f (by decide) ?_
      rw [h31, nI_add, nI_1]
      refine ih _ (by omega) (by omega) hfit.2 ((if_pos hfit).symm.trans ht) (hM1.tr (MFR.wI (by decide) (by decide))) (ri_o hI1 (by decide) (by decide)) (fun p' hp' => ?_) ?_ ?_
      · rw [wI_n (show z + 261 ≠ z + 263 by omega), wI_n (show z + 262 ≠ z + 263 by omega), wI_s, va_up_n (by omega)]
        exact hS1 p' hp'
      · rw [wI_n (by omega)]
        exact h11
      · rw [wI_s, va_up_s]
theorem slP_n {j x y' w : Nat} (h : j < 9426 + 13 * p + 5 ∨ 9426 + 13 * p + 11 ≤ j) : slP R p x y' w j = R j := by
  unfold slP
  rw [va_up_n (by omega), va_up_n (by omega), va_up_n (by omega), va_up_n (by omega)]
theorem slF_n {j : Nat} (h : j < 9426) : ∀ p, slF R p j = R j
  | 0 => rfl
  | p + 1 => by
    show (if R (9426 + 13 * p + 2) = 1 then lpR (slF R p) p else slP (lpR (slF R p) p) p (spF R p) (spF R (p + 1) - spF R p) (spM R p)) j = R j
    split
    · rw [lpR_n (by omega)]
      exact slF_n h p
    · rw [slP_n (by omega), lpR_n (by omega)]
      exact slF_n h p
theorem slF_hi {j : Nat} : ∀ p, 9426 + 13 * p ≤ j → slF R p j = R j
  | 0, _ => rfl
  | p + 1, h => by
    show (if R (9426 + 13 * p + 2) = 1 then lpR (slF R p) p else slP (lpR (slF R p) p) p (spF R p) (spF R (p + 1) - spF R p) (spM R p)) j = R j
    split
    · rw [lpR_n (by omega)]
      exact slF_hi p (by omega)
    · rw [slP_n (by omega), lpR_n (by omega)]
      exact slF_hi p (by omega)
theorem slF_wn (hN : WN R) : WN (slF R p) := by
  have e : ∀ j, j < 5 → slF R p j = R j := fun j hj => slF_n (by omega) p
  have en : ∀ j, j < 5 → nn (slF R p) j = nn R j := fun j hj => by unfold nn; rw [e j hj]
  unfold WN
  rw [e 0 (by omega), e 1 (by omega), e 2 (by omega), e 3 (by omega), e 4 (by omega), en 0 (by omega), en 1 (by omega), en 2 (by omega), en 3 (by omega), en 4 (by omega)]
  exact hN
theorem ms_put (hNf : 15642 < N) (hK : KS sh z) (hR : WF R) : ∀ (m p fu : Nat) (d : Dt), p + m = nn R 3 → m < fu → MFR z d0 d → RI d z (slF R p) R true → SPA d z R (nn R 3) → Rn (f_X12_split_175 N sh fu (z + 242) (nI p) d) (RO z R K u (1, some (slF R (nn R 3))) d0)
  | 0, p, fu, d, hp, hf, hM, hI, hS => by
    obtain ⟨fu, rfl⟩ : ∃ q, fu = q + 1 := ⟨fu - 1, by omega⟩
    show Rn (g_X12_split_175 N sh (f_X12_split_175 N sh fu) (z + 242) (nI p) d) _
    have n3 := hR.1.2.2.2.1
    unfold g_X12_split_175 f_X12_split_288
    refine rdg hK hI.1 3 rfl (by decide) ?_
    rw [slF_n (by decide), n3.1]
    refine rn_t (nI_le (by omega) (by omega)) ?_
    have e : p = nn R 3 := by omega
    subst e
    exact ro_done hK hI hM rfl
  | m + 1, p, fu, d, hp, hf, hM, hI, hS => by
    obtain ⟨fu, rfl⟩ : ∃ q, fu = q + 1 := ⟨fu - 1, by omega⟩
    have ih := ms_put hNf hK hR m (p + 1) fu
    show Rn (g_X12_split_175 N sh (f_X12_split_175 N sh fu) (z + 242) (nI p) d) _
    have n3 := hR.1.2.2.2.1
    have hp3 : p < nn R 3 := by omega
    have wn := slF_wn (R := R) (p := p) hR.1
    unfold g_X12_split_175 f_X12_split_282
    refine rdg hK hI.1 3 rfl (by decide) ?_
    rw [slF_n (by decide), n3.1]
    refine rn_f (nI_ge (by omega) (by omega)) ?_
    refine rn_bind (m_losesPart2 (by omega) hK wn (by omega) hI) (fun d1 hd => ?_)
    obtain ⟨w1, w2⟩ := hd
    have hS1 : SPA d1 z R (nn R 3) := fun p' hp' => by
      rw [w1.2 (z + 261) (by omega), w1.2 (z + 262) (by omega), w1.2 (z + 263) (by omega)]
      exact hS p' hp'
    refine rdpl hK w2.1 2 (by omega) (by decide) rfl ?_
    rw [lpR_n (by omega), slF_hi p (by omega), nI_1]
    have hout := (wp_min hR hp3).2.2
    obtain ⟨s1, s2, s3⟩ := hS1 p hp3
    have b := spF_b (R := R) p
    have b2 := spF_b (R := R) (p + 1)
    by_cases h : R (9426 + 13 * p + 2) = 1
    · refine rn_t (by rw [h]; decide) ?_
      have e : slF R (p + 1) = lpR (slF R p) p := if_pos h
      refine ih d1 (by omega) (by omega) (hM.tr w1.mfr) ?_ hS1
      rw [e]
      exact w2
    · refine rn_f (fun q => q (hout.resolve_right h)) ?_
      have e : slF R (p + 1) = slP (lpR (slF R p) p) p (spF R p) (spF R (p + 1) - spF R p) (spM R p) := if_neg h
      have wl : WN (lpR (slF R p) p) := zr_wn wn (by omega) 8
      refine wrpl hK 5 (by omega) (by decide) rfl ?_
      have r1 := ri_cellG (j := 9426 + 13 * p + 5) (v := 1) w2 wl (by omega) (fun s k _ q1 q2 => by omega)
      have wl1 := wn_up (j := 9426 + 13 * p + 5) (v := 1) wl (by omega)
      refine r_gP hK 242 12 0 243 rfl (by decide) ?_
      refine rn_eq (m_pl hK) ?_
      refine r_gP hK 242 12 29 261 rfl (by decide) ?_
      refine rn_eq (q_aT (ks_a hK 261 0 12 rfl) p rfl (by omega) (by decide)) ?_
      rw [wI_n (show z + 261 ≠ z + 243 by omega), s1]
      refine rn_eq (q_sI (ks_a hK 243 0 15642 rfl) (9426 + 13 * p + 6) (ix_pl p 6) (by omega) (by decide)) ?_
      have r2 := ri_cellG (j := 9426 + 13 * p + 6) (v := nI (spF R p)) r1 wl1 (by omega) (fun s k _ q1 q2 => by omega)
      have wl2 := wn_up (j := 9426 + 13 * p + 6) (v := nI (spF R p)) wl1 (by omega)
      refine r_gP hK 242 12 0 243 rfl (by decide) ?_
      refine rn_eq (m_pl hK) ?_
      refine r_gP hK 242 12 30 262 rfl (by decide) ?_
      refine rn_eq (q_aT (ks_a hK 262 0 12 rfl) p rfl (by omega) (by decide)) ?_
      refine r_gP hK 242 12 29 261 rfl (by decide) ?_
      refine rn_eq (q_aT (ks_a hK 261 0 12 rfl) p rfl (by omega) (by decide)) ?_
      rw [wI_n (show z + 262 ≠ z + 243 by omega), wI_n (show z + 262 ≠ z + 243 by omega), wI_n (show z + 261 ≠ z + 243 by omega), wI_n (show z + 261 ≠ z + 243 by omega), s1, s2, pk_sub b.2]
      refine rn_eq (q_sI (ks_a hK 243 0 15642 rfl) (9426 + 13 * p + 7) (ix_pl p 7) (by omega) (by decide)) ?_
      have r3 := ri_cellG (j := 9426 + 13 * p + 7) (v := nI (spF R (p + 1) - spF R p)) r2 wl2 (by omega) (fun s k _ q1 q2 => by omega)
      have wl3 := wn_up (j := 9426 + 13 * p + 7) (v := nI (spF R (p + 1) - spF R p)) wl2 (by omega)
      refine r_gP hK 242 12 0 243 rfl (by decide) ?_
      refine rn_eq (m_pl hK) ?_
      refine r_gP hK 242 12 31 263 rfl (by decide) ?_
      refine rn_eq (q_aT (ks_a hK 263 0 12 rfl) p rfl (by omega) (by decide)) ?_
      rw [wI_n (show z + 263 ≠ z + 243 by omega), wI_n (show z + 263 ≠ z + 243 by omega), wI_n (show z + 263 ≠ z + 243 by omega), s3]
      refine rn_eq (q_sI (ks_a hK 243 0 15642 rfl) (9426 + 13 * p + 10) (ix_pl p 10) (by omega) (by decide)) ?_
      have r4 := ri_cellG (j := 9426 + 13 * p + 10) (v := nI (spM R p)) r3 wl3 (by omega) (fun s k _ q1 q2 => by omega)
      have w4 : W43 z d1 (wI (wI (wI (wI d1 (z + 243) (9426 + 13 * p + 5) 1) (z + 243) (9426 + 13 * p + 6) (nI (spF R p))) (z + 243) (9426 + 13 * p + 7) (nI (spF R (p + 1) - spF R p))) (z + 243) (9426 + 13 * p + 10) (nI (spM R p))) := W43.rf.w.w.w.w
      refine ih _ (by omega) (by omega) (hM.tr (w1.mfr.tr w4.mfr)) ?_ (fun p' hp' => ?_)
      · rw [e]
        exact r4
      · rw [w4.2 (z + 261) (by omega), w4.2 (z + 262) (by omega), w4.2 (z + 263) (by omega)]
        exact hS1 p' hp'
theorem ms_out (hNf : 15642 < N) (hK : KS sh z) (hR : WF R) : ∀ (m p fu : Nat) (d : Dt), p + m = nn R 3 → m < fu → MFR z d0 d → RI d z R K u → SPA d z R p → Rn (f_X12_split_4 N sh fu (z + 242) (nI (spF R p)) (nI p) d) (RO z R K u (sp_split R) d0)
  | 0, p, fu, d, hp, hf, hM, hI, hS => by
    obtain ⟨fu, rfl⟩ : ∃ q, fu = q + 1 := ⟨fu - 1, by omega⟩
    show Rn (g_X12_split_4 N sh (f_X12_split_4 N sh fu) (z + 242) (nI (spF R p)) (nI p) d) _
    have n3 := hR.1.2.2.2.1
    have n4 := hR.1.2.2.2.2
    unfold g_X12_split_4 f_X12_split_153
    refine rdg hK hI.1 3 rfl (by decide) ?_
    rw [n3.1]
    refine rn_t (nI_le (by omega) (by omega)) ?_
    have e : p = nn R 3 := by omega
    subst e
    refine rdg hK hI.1 4 rfl (by decide) ?_
    rw [n4.1]
    have b := spF_b (R := R) (nn R 3)
    by_cases h : nn R 4 ≤ spF R (nn R 3)
    · rw [show sp_split R = _ from if_pos h]
      refine rn_t (nI_le h (by omega)) ?_
      have hm := m_keeps (sh := sh) (d := d) (z := z) (N := N) hK hNf rfl
      refine rn_bind (rn_and (ri_keeps hI hK hNf) ⟨_, hm, rfl⟩) (fun d1 hd => ?_)
      obtain ⟨⟨x1, x2⟩, x3⟩ := hd
      refine ms_put (u := u) (K := K) hNf hK hR (nn R 3) 0 N d1 (by omega) (by omega) (hM.tr x2) x1 (fun p' hp' => ?_)
      have row : ∀ i, i = 261 ∨ i = 262 ∨ i = 263 → d1.1 (z + i) = d.1 (z + i) := fun i hi => by
        rw [← x3]
        show (wI _ (z + 242) 2 1).1 (z + i) = _
        rw [wI_n (by omega)]
        exact va_up_n (by omega)
      rw [row 261 (by decide), row 262 (by decide), row 263 (by decide)]
      exact hS p' hp'
    · rw [show sp_split R = _ from if_neg h]
      refine rn_f (nI_ge (by omega) (by omega)) ?_
      refine rn_eq (m_says hK) (rn_some ⟨rfl, hM.tr (MFR.wI (by decide) (by decide)), ri_rg hI (RG.w242 (Or.inl rfl))⟩)
  | m + 1, p, fu, d, hp, hf, hM, hI, hS => by
    obtain ⟨fu, rfl⟩ : ∃ q, fu = q + 1 := ⟨fu - 1, by omega⟩
    have ih := ms_out hNf hK hR m (p + 1) fu
    show Rn (g_X12_split_4 N sh (f_X12_split_4 N sh fu) (z + 242) (nI (spF R p)) (nI p) d) _
    have n3 := hR.1.2.2.2.1
    have n4 := hR.1.2.2.2.2
    have hp3 : p < nn R 3 := by omega
    have b := spF_b (R := R) p
    unfold g_X12_split_4 f_X12_split_48
    refine rdg hK hI.1 3 rfl (by decide) ?_
    rw [n3.1]
    refine rn_f (nI_ge (by omega) (by omega)) ?_
    refine r_gP hK 242 12 29 261 rfl (by decide) ?_
    refine rn_eq (q_sI (ks_a hK 261 0 12 rfl) p rfl (by omega) (by decide)) ?_
    refine r_gP hK 242 12 31 263 rfl (by decide) ?_
    refine rn_eq (q_sI (ks_a hK 263 0 12 rfl) p rfl (by omega) (by decide)) ?_
    have i1 := ri_o (i := 263) (k := p) (v := 0) (ri_o (i := 261) (k := p) (v := nI (spF R p)) hI (by decide) (by decide)) (by decide) (by decide)
    have m1 : MFR z d0 (wI (wI d (z + 261) p (nI (spF R p))) (z + 263) p 0) := hM.tr ((MFR.wI (by decide) (by decide)).tr (MFR.wI (by decide) (by decide)))
    have s1 : SPA (wI (wI d (z + 261) p (nI (spF R p))) (z + 263) p 0) z R p := fun p' hp' => by
      rw [wI_n (show z + 261 ≠ z + 263 by omega), wI_s, va_up_n (by omega), wI_n (show z + 262 ≠ z + 263 by omega), wI_n (show z + 262 ≠ z + 261 by omega), wI_s, va_up_n (by omega), wI_n (show z + 263 ≠ z + 261 by omega)]
      exact hS p' hp'
    have h1 : (wI (wI d (z + 261) p (nI (spF R p))) (z + 263) p 0).1 (z + 261) p = nI (spF R p) := by
      rw [wI_n (by omega), wI_s, va_up_s]
    have h3 : (wI (wI d (z + 261) p (nI (spF R p))) (z + 263) p 0).1 (z + 263) p = 0 := by
      rw [wI_s, va_up_s]
    refine rdpl hK i1.1 2 (by omega) (by decide) rfl ?_
    have hk : ∀ d', MFR z d0 d' → RI d' z R K u → SPA d' z R (p + 1) → Rn (f_X12_split_4 N sh fu (z + 242) (nI (spF R (p + 1))) (nI (p + 1)) d') (RO z R K u (sp_split R) d0) := fun d' a1 a2 a3 => ih d' (by omega) (by omega) a1 a2 a3
    have hout := (wp_min hR hp3).2.2
    by_cases h : R (9426 + 13 * p + 2) = 1
    · refine rn_t (by rw [h]; decide) ?_
      have eF : spF R (p + 1) = spF R p := by
        show (spT R p (spF R p)).1 = _
        unfold spT
        rw [if_pos h]
      have eM : spM R p = 0 := by
        unfold spM spT
        rw [if_pos h]
      obtain ⟨N, rfl⟩ : ∃ q, N = q + 1 := ⟨N - 1, by omega⟩
      show Rn (g_X12_split_49 (N + 1) sh (f_X12_split_4 (N + 1) sh fu) (f_X12_split_49 (N + 1) sh (f_X12_split_4 (N + 1) sh fu) N) (z + 242) (nI (spF R p)) (nI p) 0 _) _
      unfold g_X12_split_49
      refine rn_t rfl ?_
      have q := ms_end (N := N + 1) hK (by omega) i1 m1 s1 h1 (by rw [h3, eM]; rfl) hk
      rw [eF] at q
      exact q
    · refine rn_f (fun q => q (hout.resolve_right h)) ?_
      refine ms_in hR hK hp3 hk (nn R 4 - spF R p) (spF R p) 0 N _ (by omega) (by omega) (Nat.zero_le _) ?_ m1 i1 s1 h1 h3
      have e : spT R p (spF R p) = tkF R p (nn R 4 - spF R p) (spF R p) 0 := if_neg h
      rw [← e]
      rfl
theorem m_split (hNf : 15642 < N) (hK : KS sh z) (h : RI d z R K u) (hR : WF R) : Rn (f_X12_split N sh (z + 242) d) (RO z R K u (sp_split R) d) := by
  have n3 := hR.1.2.2.2.1.2
  unfold f_X12_split
  refine rn_t (ks_o hK 242 12 rfl) ?_
  exact ms_out hNf hK hR (nn R 3) 0 N d (by omega) (by omega) MFR.rf h (fun p' hp' => absurd hp' (Nat.not_lt_zero p'))
end SPL
/-! 9p.splitk.lean.txt -/
/-! split() of the class -/
def WO (R : Nat → Int32) : Prop := ∀ p, p < nn R 3 → R (9426 + 13 * p + 2) = 1 → ∀ x, 5 ≤ x → x < 13 → R (9426 + 13 * p + x) = 0
section SPK
variable {s s' s0 s1 : AS} {sh : Sh} {d d' d0 : Dt} {z : Nat} {ow ow' : Nat → Nat} {R R' K : Nat → Int32} {u : Bool} {y y1 : YL} {c N p k l a i : Nat} {q q' : BL} {v : Int32}
theorem bk_lg (hK : KS sh z) (hw : OWS ow z) (h : BK sh d z ow 3 R q) (hl : LG z d d') : BK sh d' z ow 3 R q := bk_ix (s := (sh, d)) (s' := (sh, d')) h (Or.inl rfl) hK hw ((hl.ix hw).es) (by omega)
theorem pb_lg (hK : KS sh z) (hw : OWS ow z) (h : PB sh d z ow R) (hl : LG z d d') : PB sh d' z ow R := pb_ix (s := (sh, d)) (s' := (sh, d')) h hK hw ((hl.ix hw).es) (by omega) (by omega)
def TDQ (z : Nat) (p fr e f : Nat) (d0 : Dt) (r : Int32 × Dt) : Prop := r.1 = nI e ∧ ∃ d1, LG z d0 d1 ∧ r.2 = wI (wI (wI d1 (z + 237) p (nI fr)) (z + 238) p (nI e)) (z + 239) p (nI f)
theorem ktd_end {fr e f : Nat} (hK : KS sh z) (hp : p < 12) (hl : LG z d0 d) : Rn (f_X11_takeDrives_172 N sh z (nI p) (nI fr) (nI f) (nI e) d) (TDQ z p fr e f d0) := by
  unfold f_X11_takeDrives_172
  rw [← z0 (z := z)]
  refine r_gP hK 0 11 8 237 rfl (by decide) ?_
  refine rn_eq (q_sI (ks_a hK 237 0 12 rfl) p rfl hp (by decide)) ?_
  refine r_gP hK 0 11 9 238 rfl (by decide) ?_
  refine rn_eq (q_sI (ks_a hK 238 0 12 rfl) p rfl hp (by decide)) ?_
  refine r_gP hK 0 11 10 239 rfl (by decide) ?_
  refine rn_eq (q_sI (ks_a hK 239 0 12 rfl) p rfl hp (by decide)) ?_
  exact rn_some ⟨rfl, d, hl, rfl⟩
theorem ktd_loop {fr e f : Nat} (hR : WF R) (hK : KS sh z) (hw : OWS ow z) (hB0 : BK sh d0 z ow 3 R q) (hP0 : PB sh d0 z ow R) (hp : p < nn R 3) : ∀ (m i sum fu : Nat) (d : Dt), i + m = nn R 4 → m + 1 < fu → sum ≤ nn R (9426 + 13 * p + 1) → tkF R p m i sum = (e, f) → LG z d0 d → Rn (f_X11_takeDrives_8 N sh fu z (nI p) (nI fr) (nI sum) (nI i) 1 d) (TDQ z p fr e f d0)
  | m, i, sum, fu, d, hi, hf, hs, ht, hl => by
    obtain ⟨fu, rfl⟩ : ∃ q, fu = q + 1 := ⟨fu - 1, by omega⟩
    show Rn (g_X11_takeDrives_8 N sh (f_X11_takeDrives_8 N sh fu) z (nI p) (nI fr) (nI sum) (nI i) 1 d) _
    have n4 := hR.1.2.2.2.2.2
    have n3 := hR.1.2.2.2.1.2
    have hW := wpk_of hR
    have hB := bk_lg hK hw hB0 hl
    have hP := pb_lg hK hw hP0 hl
    obtain ⟨w1, w2, w3⟩ := wp_min hR hp
    unfold g_X11_takeDrives_8
    refine r_now hK 4 31 (by decide) ?_
    refine r_gI hK (i := 31) (c := 8) rfl ?_
    rw [hB.2.2.2.2.1.1]
    cases m with
    | zero =>
      refine rn_t (nI_le (by omega) (by omega)) ?_
      have e1 : (i, sum) = (e, f) := ht
      injection e1 with e1 e2
      subst e1
      subst e2
      exact ktd_end hK (by omega) hl
    | succ m =>
      have hi4 : i < nn R 4 := by omega
      obtain ⟨t1, t2, t3⟩ := wd_at hR hi4
      obtain ⟨-, ⟨l1, l2, l3⟩, -⟩ := hR.2.2.1 _ t1
      have hmb := mi_b (p := p) hR hi4
      have sb := psN_le (R := R) (p := p) (i := i)
      refine rn_f (nI_ge hi4 (by omega)) ?_
      refine rn_f (by decide) ?_
      refine r_now hK 4 31 (by decide) ?_
      refine rn_eq (tb_get (o := 31) (nc := 4) (c := 0) hK (by decide) hB.2.2.2.2.1 rfl hi4 rfl (by decide)) ?_
      have ev0 : vD R 0 i = R (9642 + 3 * i) := rfl
      rw [ev0, t2]
      refine r_now hK 4 31 (by decide) ?_
      refine rn_eq (tb_get (o := 31) (nc := 4) (c := 3) hK (by decide) hB.2.2.2.2.1 rfl hi4 rfl (by decide)) ?_
      have ev3 : vD R 3 i = R (9642 + 3 * i + 2) := rfl
      rw [ev3]
      have no : ¬ fit R p i sum → ∀ d1 w, LG z d0 d1 → Rn (f_X11_takeDrives_153 N sh (f_X11_takeDrives_8 N sh fu) z (nI p) (nI fr) (nI sum) (nI i) w d1) (TDQ z p fr e f d0) := fun hn d1 w hl1 => by
        have e1 : (i, sum) = (e, f) := (if_neg hn).symm.trans ht
        injection e1 with e1 e2
        subst e1
        subst e2
        unfold f_X11_takeDrives_153 f_X11_takeDrives_154 f_X11_takeDrives_169
        refine rn_t rfl ?_
        obtain ⟨fu, rfl⟩ : ∃ q, fu = q + 1 := ⟨fu - 1, by omega⟩
        show Rn (g_X11_takeDrives_8 N sh (f_X11_takeDrives_8 N sh fu) z (nI p) (nI fr) (nI sum) (nI i) 0 d1) _
        unfold g_X11_takeDrives_8
        refine r_now hK 4 31 (by decide) ?_
        refine r_gI hK (i := 31) (c := 8) rfl ?_
        rw [(bk_lg hK hw hB0 hl1).2.2.2.2.1.1]
        refine rn_f (nI_ge hi4 (by omega)) ?_
        refine rn_t rfl ?_
        exact ktd_end hK (by omega) hl1
      have fin : ∀ d1, LG z d0 d1 → Rn (f_X11_takeDrives_86 N sh (f_X11_takeDrives_8 N sh fu) z (nI p) (nI fr) (nI sum) (nI i) (nI (nn R (9642 + 3 * i))) (nI (psN R p i)) d1) (TDQ z p fr e f d0) := fun d1 hl1 => by
        have hB1 := bk_lg hK hw hB0 hl1
        have hP1 := pb_lg hK hw hP0 hl1
        unfold f_X11_takeDrives_86 f_X11_takeDrives_123
        by_cases h0 : psN R p i = 0
        · rw [h0]
          refine rn_f (fun q => q rfl) ?_
          refine rn_t rfl ?_
          exact no (fun q => q.1 h0) d1 _ hl1
        refine rn_t (nI_ne0 (by omega) (by omega)) ?_
        obtain ⟨a, a1, -, -, a4⟩ := k_body hK hP1 hp hR.1
        rw [← z0 (z := z)]
        refine r_gP hK 0 11 6 235 rfl (by decide) ?_
        refine rn_eq a1 ?_
        rw [z0 (z := z)]
        refine r_now hK 1 4 (by decide) ?_
        refine rn_eq (tb_get (o := 4) (nc := 9) (c := 6) hK (by decide) hB1.2.1 rfl t1 rfl (by decide)) ?_
        have ev : vS R 6 (nn R (9642 + 3 * i)) = nI (sln R (nn R (9642 + 3 * i))) := l1
        rw [ev]
        refine rn_bind (k_takes hK hW hp a4 l3 l2) (fun r hr => ?_)
        rw [hr.1, pk_mul]
        have hl2 := hl1.tr hr.2
        refine rn_f (nI_ne0 (by omega) (by omega)) ?_
        refine r_now hK 3 20 (by decide) ?_
        refine rn_eq (tb_get (o := 20) (nc := 9) (c := 5) hK (by decide) (bk_lg hK hw hB0 hl2).2.2.2.1 rfl hp rfl (by decide)) ?_
        have ev5 : vP R 5 p = R (9426 + 13 * p + 1) := rfl
        have em : psN R p i * tkR R p (sln R (nn R (9642 + 3 * i))) = miR R p i := rfl
        rw [ev5, w1, em, nI_add]
        refine rn_ite (fun h5 => ?_) (fun h5 => ?_)
        · exact no (fun q => by
            have := (nI_ltI (by omega) (by omega)).mp h5
            have := q.2
            omega) _ _ hl2
        have hfit : fit R p i sum := ⟨h0, by
          rcases Nat.lt_or_ge (nn R (9426 + 13 * p + 1)) (sum + miR R p i) with q | q
          · exact absurd (nI_lt q (by omega)) h5
          · exact q⟩
        unfold f_X11_takeDrives_154 f_X11_takeDrives_169
        refine rn_f (by decide) ?_
        rw [nI_add, nI_1]
        exact ktd_loop hR hK hw hB0 hP0 hp m (i + 1) (sum + miR R p i) fu r.2 (by omega) (by omega) hfit.2 ((if_pos hfit).symm.trans ht) hl2
      refine rn_ite (fun h1 => ?_) (fun h1 => ?_)
      · have e1 : psN R p i = 1 := if_neg h1
        have := fin d hl
        rw [e1] at this
        exact this
      · have h1 := Decidable.of_not_not h1
        have e1 : psN R p i = (psR R p (R (16 + 9 * nn R (9642 + 3 * i) + 0))).toNatClampNeg := if_pos h1
        obtain ⟨a, a1, -, -, a4⟩ := k_body hK hP hp hR.1
        rw [← z0 (z := z)]
        refine r_gP hK 0 11 6 235 rfl (by decide) ?_
        refine rn_eq a1 ?_
        rw [z0 (z := z)]
        refine r_now hK 1 4 (by decide) ?_
        refine rn_eq (tb_get (o := 4) (nc := 9) (c := 0) hK (by decide) hB.2.1 rfl t1 rfl (by decide)) ?_
        have ev : vS R 0 (nn R (9642 + 3 * i)) = R (16 + 9 * nn R (9642 + 3 * i) + 0) := rfl
        rw [ev]
        refine rn_bind (k_passes hK hW hp a4) (fun r hr => ?_)
        have e2 := psR_nI (R := R) (p := p) (v := R (16 + 9 * nn R (9642 + 3 * i) + 0))
        rw [← e1] at e2
        rw [hr.1, e2]
        exact fin r.2 (hl.tr hr.2)
/-- what the first p PLOUGHS that are not OUT took, in the class -/
def KSA (d : Dt) (z : Nat) (R : Nat → Int32) (p : Nat) : Prop := ∀ p', p' < p → R (9426 + 13 * p' + 2) ≠ 1 → d.1 (z + 237) p' = nI (spF R p') ∧ d.1 (z + 238) p' = nI (spF R (p' + 1)) ∧ d.1 (z + 239) p' = nI (spM R p')
theorem chg_rows {qn qb : BL} (hNf : 30 ≤ N) (h : CI s z ow R K u y c) (hR : WF R) (hKF : WF K) : Rn (f_X11_change N z s) (fun s' => ∀ i, i = 237 ∨ i = 238 ∨ i = 239 → s'.2.1 (z + i) = s.2.1 (z + i)) := by
  refine rn_mono (k_change hNf h.1 h.2.1 hKF.1 hR.1 hR.2.1 h.2.2.1 h.2.2.2.1) (fun s' hs => ?_)
  obtain ⟨ow1, q1, s1, e1, x1, x2, rfl, w1, m1⟩ := hs
  intro i hi
  have e : s1.2.1 (z + i) = s.2.1 (z + i) := by
    rcases hi with rfl | rfl | rfl
    · exact (es_row h.1 h.2.1 e1 (i := 237) (by decide) (by omega)).1
    · exact (es_row h.1 h.2.1 e1 (i := 238) (by decide) (by omega)).1
    · exact (es_row h.1 h.2.1 e1 (i := 239) (by decide) (by omega)).1
  rw [← e]
  show (wI (wI (wI (wI s1.2 z 13 1) (z + 77) 5 0) (z + 201) 4 0) (z + 201) 7 0).1 (z + i) = _
  rw [wI_n (by omega), wI_n (by omega), wI_n (by omega), wI_n (by omega)]
theorem k_isOut2 (hk : R (9426 + 13 * p) = nI (nn R (9426 + 13 * p)) ∧ nn R (9426 + 13 * p) ≤ 4) (hK : KS sh z) {L : Nat → Nat} (hT : TB sh d z ow 20 9 (nn R 3) (vP R) L) (hp : p < nn R 3) : f_X1_isOut N sh (z + 3) (nI p) d = some (if R (9426 + 13 * p + 2) = 1 then 1 else 0) := by
  refine rn_val ?_
  unfold f_X1_isOut f_X1_isOut_19
  refine rn_t (ks_o hK 3 1 rfl) ?_
  refine r_gP hK 3 1 3 20 rfl (by decide) ?_
  refine rn_eq (tb_get (o := 20) (nc := 9) (c := 6) hK (by decide) hT rfl hp rfl (by decide)) ?_
  have ev : vP R 6 p = if R (9426 + 13 * p + 2) = 1 then -1 else R (9426 + 13 * p) := rfl
  rw [ev]
  by_cases h1 : R (9426 + 13 * p + 2) = 1
  · rw [if_pos h1, if_pos h1]
    exact rn_f (fun q => q rfl) ⟨1, rfl, rfl⟩
  · rw [if_neg h1, if_neg h1]
    refine rn_t (fun e => ?_) ⟨0, rfl, rfl⟩
    rw [hk.1] at e
    exact nI_m1 (by omega) e
theorem slF_k {p' x : Nat} (hx : x < 5) : ∀ p, slF R p (9426 + 13 * p' + x) = R (9426 + 13 * p' + x)
  | 0 => rfl
  | p + 1 => by
    show (if R (9426 + 13 * p + 2) = 1 then lpR (slF R p) p else slP (lpR (slF R p) p) p (spF R p) (spF R (p + 1) - spF R p) (spM R p)) (9426 + 13 * p' + x) = _
    have ih := slF_k (p' := p') hx p
    split
    · rw [lpR_n (by omega)]
      exact ih
    · rw [slP_n (by omega), lpR_n (by omega)]
      exact ih
theorem slF_wdn (hR : WF R) (hp : p ≤ 12) : WDn (slF R p) := wdn_cg (wdn_of hR) (slF_wn hR.1) (fun j _ hj => by
  rcases Nat.lt_or_ge j 9426 with q | q
  · exact slF_n q p
  · exact slF_hi p (by omega))
theorem slP_vP {x x2 x3 i c : Nat} : vP (slP R p x x2 x3) c i = if c = 4 ∧ i = p then nI x3 else if c = 1 ∧ i = p then nI x2 else if c = 0 ∧ i = p then nI x else vP R c i := by
  have e6 : slP R p x x2 x3 (9426 + 13 * p + 6) = nI x := by unfold slP; rw [va_up_n (by omega), va_up_n (by omega), va_up_s]
  have e7 : slP R p x x2 x3 (9426 + 13 * p + 7) = nI x2 := by unfold slP; rw [va_up_n (by omega), va_up_s]
  have e10 : slP R p x x2 x3 (9426 + 13 * p + 10) = nI x3 := by unfold slP; rw [va_up_s]
  have en : ∀ t, (t < 5 ∨ t = 8 ∨ t = 9 ∨ t = 11 ∨ t = 12) → slP R p x x2 x3 (9426 + 13 * p + t) = R (9426 + 13 * p + t) := fun t ht => by
    unfold slP
    rw [va_up_n (by omega), va_up_n (by omega), va_up_n (by omega), va_up_n (by omega)]
  by_cases hi : i = p
  · subst hi
    by_cases h4 : c = 4
    · subst h4
      rw [if_pos ⟨rfl, rfl⟩]
      exact e10
    rw [if_neg (fun q => h4 q.1)]
    by_cases h1 : c = 1
    · subst h1
      rw [if_pos ⟨rfl, rfl⟩]
      exact e7
    rw [if_neg (fun q => h1 q.1)]
    by_cases h0 : c = 0
    · subst h0
      rw [if_pos ⟨rfl, rfl⟩]
      exact e6
    rw [if_neg (fun q => h0 q.1)]
    unfold vP
    simp only [if_neg h0, if_neg h1, if_neg h4, en 8 (by omega), en 9 (by omega), en 1 (by omega), en 2 (by omega), show slP R i x x2 x3 (9426 + 13 * i) = R (9426 + 13 * i) from en 0 (by omega), en 11 (by omega), en 12 (by omega)]
  · rw [if_neg (fun q => hi q.2), if_neg (fun q => hi q.2), if_neg (fun q => hi q.2)]
    have e : ∀ t, t < 13 → slP R p x x2 x3 (9426 + 13 * i + t) = R (9426 + 13 * i + t) := fun t ht => slP_n (by omega)
    unfold vP
    simp only [e 6 (by omega), e 7 (by omega), e 8 (by omega), e 9 (by omega), e 10 (by omega), e 1 (by omega), e 2 (by omega), show slP R p x x2 x3 (9426 + 13 * i) = R (9426 + 13 * i) from e 0 (by omega), e 11 (by omega), e 12 (by omega)]
theorem ks_put (hN1 : 200 ≤ N) (hR : WF R) (hO : WO R) (c1 : CI s1 z ow R R true y1 c) (g1 : s1.2.1 (z + 77) 5 = 0) (g2 : s1.2.1 (z + 201) 4 = 0) (g3 : s1.2.1 (z + 201) 7 = 0) (hf1 : RFR z s0 s1) (hS : KSA s1.2 z R (nn R 3)) : ∀ (m p fu : Nat) (d : Dt), p + m = nn R 3 → m < fu → FD (IX z ow 3 39) s1.2 d → BK s1.1 d z ow 3 (slF R p) y1.1 → Rn (f_X11_split_68 N fu z (nI p) (s1.1, d)) (KO z R K u c (1, some (slF R (nn R 3))) s0)
  | 0, p, fu, d, hp, hf, hF, hB => by
    obtain ⟨fu, rfl⟩ : ∃ q, fu = q + 1 := ⟨fu - 1, by omega⟩
    show Rn (g_X11_split_68 N (f_X11_split_68 N fu) z (nI p) (s1.1, d)) _
    have hK := c1.1
    have n3 := hR.1.2.2.2.1.2
    unfold g_X11_split_68 f_X11_split_168
    refine r_now hK 3 20 (by decide) ?_
    refine r_gI hK (i := 20) (c := 8) rfl ?_
    have e3 : nn (slF R p) 3 = nn R 3 := by unfold nn; rw [slF_n (by decide)]
    rw [hB.2.2.2.1.1, e3]
    refine rn_t (nI_le (by omega) (by omega)) ?_
    have e : p = nn R 3 := by omega
    subst e
    have qn := ci_new c1 g1 g2 g3 hF hB (pb_cg2 c1.2.2.2.2.2.1 e3 (fun p' x hx => slF_k (by omega) _))
    refine rn_bind (k_answer hK) (fun r hr => rn_some ?_)
    have q3 := ci_lg qn.1 hr.2
    exact ⟨hr.1, (hf1.tr qn.2).tr q3.2, ow, _, q3.1⟩
  | m + 1, p, fu, d, hp, hf, hF, hB => by
    obtain ⟨fu, rfl⟩ : ∃ q, fu = q + 1 := ⟨fu - 1, by omega⟩
    have ih := ks_put hN1 hR hO c1 g1 g2 g3 hf1 hS m (p + 1) fu
    show Rn (g_X11_split_68 N (f_X11_split_68 N fu) z (nI p) (s1.1, d)) _
    have hK := c1.1
    have hw := c1.2.1
    have n3 := hR.1.2.2.2.1.2
    have hp3 : p < nn R 3 := by omega
    have wk := (hR.2.2.2.2.1 p hp3).1
    have e3 : nn (slF R p) 3 = nn R 3 := by unfold nn; rw [slF_n (by decide)]
    have wd := slF_wdn (R := R) (p := p) hR (by omega)
    have hL := hB.2.2.2.2.2.2.2.2.2.1
    have row : ∀ (d2 : Dt), FD (IX z ow 3 39) s1.2 d2 → ∀ i, i = 237 ∨ i = 238 ∨ i = 239 → d2.1 (z + i) = s1.2.1 (z + i) := fun d2 h2 i hi => by
      have he : ES (IX z ow 3 39) s1 ow (s1.1, d2) ow := FD.es (sh := s1.1) (d := s1.2) h2
      rcases hi with rfl | rfl | rfl
      · exact (es_row hK hw he (i := 237) (by decide) (by omega)).1
      · exact (es_row hK hw he (i := 238) (by decide) (by omega)).1
      · exact (es_row hK hw he (i := 239) (by decide) (by omega)).1
    unfold g_X11_split_68 f_X11_split_162
    refine r_now hK 3 20 (by decide) ?_
    refine r_gI hK (i := 20) (c := 8) rfl ?_
    rw [hB.2.2.2.1.1, e3]
    refine rn_f (nI_ge hp3 (by omega)) ?_
    refine r_gP hK 0 11 1 3 rfl (by decide) ?_
    have k0 : slF R p (9426 + 13 * p) = R (9426 + 13 * p) := slF_k (x := 0) (by decide) p
    refine rn_eq (k_isOut2 (R := slF R p) ⟨by unfold nn; rw [k0]; exact wk.1, by unfold nn; rw [k0]; exact wk.2⟩ hK hB.2.2.2.1 (by rw [e3]; exact hp3)) ?_
    rw [slF_k (x := 2) (by decide) p, nI_1]
    by_cases h : R (9426 + 13 * p + 2) = 1
    · rw [if_pos h]
      refine rn_t (by decide) ?_
      have e : slF R (p + 1) = lpR (slF R p) p := if_pos h
      refine ih d (by omega) (by omega) hF ?_
      rw [e]
      refine bk_P (s := (s1.1, d)) (s' := (s1.1, d)) (L' := y1.1.2.2.1) wd (Or.inl rfl) hK hw hB ES.rf ?_ hL (fun k _ hk => lpR_n (by omega))
      have e4 : nn (lpR (slF R p) p) 3 = nn (slF R p) 3 := by unfold nn; rw [lpR_n (by omega)]
      rw [e4]
      refine tb_congr hB.2.2.2.1 (fun c9 i9 hc hi => ?_)
      rw [lp_vP hc]
      by_cases h9 : i9 = p ∧ c9 ≠ 5 ∧ c9 ≠ 6
      · rw [if_pos h9]
        obtain ⟨rfl, h5, h6⟩ := h9
        have zz : ∀ x, 5 ≤ x → x < 13 → slF R i9 (9426 + 13 * i9 + x) = 0 := fun x h1 h2 => (slF_hi i9 (by omega)).trans (hO i9 hp3 h x h1 h2)
        have hc9 : c9 = 0 ∨ c9 = 1 ∨ c9 = 2 ∨ c9 = 3 ∨ c9 = 4 ∨ c9 = 7 ∨ c9 = 8 := by omega
        rcases hc9 with rfl | rfl | rfl | rfl | rfl | rfl | rfl
        · exact (zz 6 (by decide) (by decide)).symm
        · exact (zz 7 (by decide) (by decide)).symm
        · exact (zz 8 (by decide) (by decide)).symm
        · exact (zz 9 (by decide) (by decide)).symm
        · exact (zz 10 (by decide) (by decide)).symm
        · exact (zz 11 (by decide) (by decide)).symm
        · exact (zz 12 (by decide) (by decide)).symm
      · rw [if_neg h9]
    · rw [if_neg h]
      refine rn_f (fun q => q rfl) ?_
      have e : slF R (p + 1) = slP (lpR (slF R p) p) p (spF R p) (spF R (p + 1) - spF R p) (spM R p) := if_neg h
      have b := spF_b (R := R) p
      have b2 := spF_b (R := R) (p + 1)
      obtain ⟨t1, t2, t3⟩ := hS p hp3 h
      rw [← z0 (z := z)]
      refine r_gP hK 0 11 1 3 rfl (by decide) ?_
      refine rn_bind (k_dropPart (by omega) wd hK hw hB (by rw [e3]; exact hp3)) (fun d1 hd1 => ?_)
      have mo : ∀ {a b : Dt}, FD (TX z ow 20) a b → FD (IX z ow 20 21) a b := fun h => h.mono (fun a ha => tx_ix (nc := 9) (by decide) hw ha)
      have hF1 : FD (IX z ow 3 39) s1.2 d1 := hF.tr (hd1.1.mono (fun a ha => ix_mono ha (by omega) (by omega)))
      have e4 : nn (lpR (slF R p) p) 3 = nn R 3 := by
        rw [← e3]
        unfold nn
        rw [lpR_n (by omega)]
      have a237 := ks_a hK 237 0 12 rfl
      have a238 := ks_a hK 238 0 12 rfl
      have a239 := ks_a hK 239 0 12 rfl
      refine r_gP hK 0 11 1 3 rfl (by decide) ?_
      refine r_gP hK 3 1 3 20 rfl (by decide) ?_
      refine r_gP hK 0 11 8 237 rfl (by decide) ?_
      refine rn_eq (q_aT a237 p rfl (by omega) (by decide)) ?_
      rw [row d1 hF1 237 (by decide), t1]
      refine rn_bind (tb_put (o := 20) (nc := 9) (c := 0) hK hw (by decide) hd1.2.2.2.2.1 rfl (by rw [e4]; exact hp3) rfl (by decide)) (fun d2 hd2 => ?_)
      have hF2 : FD (IX z ow 3 39) s1.2 d2 := hF1.tr ((mo hd2.2).mono (fun a ha => ix_mono ha (by omega) (by omega)))
      refine r_gP hK 0 11 1 3 rfl (by decide) ?_
      refine r_gP hK 3 1 3 20 rfl (by decide) ?_
      refine r_gP hK 0 11 9 238 rfl (by decide) ?_
      refine rn_eq (q_aT a238 p rfl (by omega) (by decide)) ?_
      refine r_gP hK 0 11 8 237 rfl (by decide) ?_
      refine rn_eq (q_aT a237 p rfl (by omega) (by decide)) ?_
      rw [row d2 hF2 237 (by decide), row d2 hF2 238 (by decide), t1, t2, pk_sub b.2]
      refine rn_bind (tb_put (o := 20) (nc := 9) (c := 1) hK hw (by decide) hd2.1 rfl (by rw [e4]; exact hp3) rfl (by decide)) (fun d3 hd3 => ?_)
      have hF3 : FD (IX z ow 3 39) s1.2 d3 := hF2.tr ((mo hd3.2).mono (fun a ha => ix_mono ha (by omega) (by omega)))
      refine r_gP hK 0 11 1 3 rfl (by decide) ?_
      refine r_gP hK 3 1 3 20 rfl (by decide) ?_
      refine r_gP hK 0 11 10 239 rfl (by decide) ?_
      refine rn_eq (q_aT a239 p rfl (by omega) (by decide)) ?_
      rw [row d3 hF3 239 (by decide), t3]
      refine rn_bind (tb_put (o := 20) (nc := 9) (c := 4) hK hw (by decide) hd3.1 rfl (by rw [e4]; exact hp3) rfl (by decide)) (fun d4 hd4 => ?_)
      rw [z0 (z := z)]
      refine ih d4 (by omega) (by omega) (hF3.tr ((mo hd4.2).mono (fun a ha => ix_mono ha (by omega) (by omega)))) ?_
      rw [e]
      have wd1 : WDn (lpR (slF R p) p) := wdn_cg wd (zr_wn wd.1 (by omega) 8) (fun j _ hj => lpR_n (by omega))
      have es : ES (IX z ow 20 21) (s1.1, d1) ow (s1.1, d4) ow := FD.es (sh := s1.1) (d := d1) (((mo hd2.2).tr (mo hd3.2)).tr (mo hd4.2))
      refine bk_P (s := (s1.1, d1)) (s' := (s1.1, d4)) (q := y1.1) (L' := y1.1.2.2.1) wd1 (Or.inl rfl) hK hw hd1.2 es ?_ hL (fun k _ hk => slP_n (by omega))
      have e5 : nn (slP (lpR (slF R p) p) p (spF R p) (spF R (p + 1) - spF R p) (spM R p)) 3 = nn (lpR (slF R p) p) 3 := by unfold nn; rw [slP_n (by omega)]
      rw [e5]
      exact tb_congr hd4.1 (fun c9 i9 _ _ => slP_vP)
theorem ks_out (hNf : 2100 ≤ N) (hR : WF R) (hO : WO R) (hKF : WF K) : ∀ (m p fu : Nat) (s : AS), p + m = nn R 3 → m < fu → RFR z s0 s → (∃ ow y, CI s z ow R K u y c) → KSA s.2 z R p → Rn (f_X11_split_4 N fu z (nI (spF R p)) (nI p) s) (KO z R K u c (sp_split R) s0)
  | 0, p, fu, s, hp, hf, hF, hC, hS => by
    obtain ⟨fu, rfl⟩ : ∃ q, fu = q + 1 := ⟨fu - 1, by omega⟩
    obtain ⟨ow, y, hC⟩ := hC
    show Rn (g_X11_split_4 N (f_X11_split_4 N fu) z (nI (spF R p)) (nI p) s) _
    have hK := hC.1
    have hB : BK s.1 s.2 z ow 3 R y.1 := hC.2.2.1
    have n3 := hR.1.2.2.2.1.2
    have n4 := hR.1.2.2.2.2.2
    unfold g_X11_split_4 f_X11_split_42
    refine r_now hK 3 20 (by decide) ?_
    refine r_gI hK (i := 20) (c := 8) rfl ?_
    rw [hB.2.2.2.1.1]
    refine rn_t (nI_le (by omega) (by omega)) ?_
    have e : p = nn R 3 := by omega
    subst e
    refine r_now hK 4 31 (by decide) ?_
    refine r_gI hK (i := 31) (c := 8) rfl ?_
    rw [hB.2.2.2.2.1.1]
    have b := spF_b (R := R) (nn R 3)
    by_cases h : nn R 4 ≤ spF R (nn R 3)
    · rw [show sp_split R = _ from if_pos h]
      refine rn_t (nI_le h (by omega)) ?_
      refine rn_bind (rn_and (ci_change (by omega) hC hR.1 hR.2.1 hKF.1) (chg_rows (qn := y.1) (qb := y.1) (by omega) hC hR hKF)) (fun s1 hs => ?_)
      obtain ⟨⟨f1, g1, g2, g3, ow1, y1, -, c1⟩, rows⟩ := hs
      unfold f_X11_split_66
      refine ks_put (by omega) hR hO c1 g1 g2 g3 (hF.tr f1) (fun p' hp' ho => ?_) (nn R 3) 0 N s1.2 (by omega) (by omega) FD.rf c1.2.2.1
      rw [rows 237 (by decide), rows 238 (by decide), rows 239 (by decide)]
      exact hS p' hp' ho
    · rw [show sp_split R = _ from if_neg h]
      refine rn_f (nI_ge (by omega) (by omega)) ?_
      refine rn_bind (k_answer hK) (fun r hr => rn_some ?_)
      have q3 := ci_lg hC hr.2
      exact ⟨hr.1, hF.tr q3.2, ow, y, q3.1⟩
  | m + 1, p, fu, s, hp, hf, hF, hC, hS => by
    obtain ⟨fu, rfl⟩ : ∃ q, fu = q + 1 := ⟨fu - 1, by omega⟩
    have ih := ks_out hNf hR hO hKF m (p + 1) fu
    obtain ⟨ow, y, hC⟩ := hC
    show Rn (g_X11_split_4 N (f_X11_split_4 N fu) z (nI (spF R p)) (nI p) s) _
    have hK := hC.1
    have hw := hC.2.1
    have hB : BK s.1 s.2 z ow 3 R y.1 := hC.2.2.1
    have n3 := hR.1.2.2.2.1.2
    have n4 := hR.1.2.2.2.2.2
    have hp3 : p < nn R 3 := by omega
    have b := spF_b (R := R) p
    unfold g_X11_split_4 f_X11_split_36
    refine r_now hK 3 20 (by decide) ?_
    refine r_gI hK (i := 20) (c := 8) rfl ?_
    rw [hB.2.2.2.1.1]
    refine rn_f (nI_ge hp3 (by omega)) ?_
    refine r_gP hK 0 11 1 3 rfl (by decide) ?_
    refine rn_eq (k_isOut (Or.inl rfl) hR hK hB.2.2.2.1 hp3) ?_
    rw [nI_1]
    by_cases h : R (9426 + 13 * p + 2) = 1
    · rw [if_pos h]
      refine rn_t (by decide) ?_
      have eF : spF R (p + 1) = spF R p := by
        show (spT R p (spF R p)).1 = _
        unfold spT
        rw [if_pos h]
      have q := ih s (by omega) (by omega) hF ⟨ow, y, hC⟩ (fun p' hp' ho => by
        by_cases e : p' = p
        · subst e
          exact absurd h ho
        · exact hS p' (by omega) ho)
      rw [eF] at q
      exact q
    · rw [if_neg h]
      refine rn_f (fun q => q rfl) ?_
      have e : spT R p (spF R p) = tkF R p (nn R 4 - spF R p) (spF R p) 0 := if_neg h
      refine rn_bind (P := TDQ z p (spF R p) (spF R (p + 1)) (spM R p) s.2) ?_ (fun r hr => ?_)
      · unfold f_X11_takeDrives
        refine rn_t (ks_o hK 0 11 rfl) ?_
        exact ktd_loop hR hK hw hB hC.2.2.2.2.2.1 hp3 (nn R 4 - spF R p) (spF R p) 0 N s.2 (by omega) (by omega) (Nat.zero_le _) (by rw [← e]; rfl) LG.rf
      obtain ⟨r1, d1, hl, r2⟩ := hr
      rw [r1]
      have q1 := ci_lg hC hl
      have o237 := hw 237 (by decide) (by decide)
      have o238 := hw 238 (by decide) (by decide)
      have o239 := hw 239 (by decide) (by decide)
      have fd : FD (IX z ow 237 239) d1 r.2 := by
        rw [r2]
        exact ((fd_ix (by decide) o237).mono (fun a ha => ix_mono ha (by decide) (by decide))).tr (((fd_ix (by decide) o238).mono (fun a ha => ix_mono ha (by decide) (by decide))).tr ((fd_ix (by decide) o239).mono (fun a ha => ix_mono ha (by decide) (by decide))))
      have q2 : CI (s.1, r.2) z ow R K u y c := ci_fd (s := (s.1, d1)) q1.1 fd (Or.inr ⟨by decide, by decide⟩)
      have q3 : RFR z (s.1, d1) (s.1, r.2) := RFR.ix (s := (s.1, d1)) hK hw (fd.es) (by decide)
      refine ih (s.1, r.2) (by omega) (by omega) ((hF.tr q1.2).tr q3) ⟨ow, y, q2⟩ (fun p' hp' ho => ?_)
      show r.2.1 (z + 237) p' = _ ∧ r.2.1 (z + 238) p' = _ ∧ r.2.1 (z + 239) p' = _
      rw [r2, wI_n (show z + 237 ≠ z + 239 by omega), wI_n (show z + 237 ≠ z + 238 by omega), wI_s, wI_n (show z + 238 ≠ z + 239 by omega), wI_s, wI_n (show z + 238 ≠ z + 237 by omega), wI_s, wI_n (show z + 239 ≠ z + 238 by omega), wI_n (show z + 239 ≠ z + 237 by omega)]
      by_cases e9 : p' = p
      · subst e9
        rw [va_up_s, va_up_s, va_up_s]
        exact ⟨rfl, rfl, rfl⟩
      · rw [va_up_n e9, va_up_n e9, va_up_n e9, hl.2 _ (by omega) (by omega), hl.2 _ (by omega) (by omega), hl.2 _ (by omega) (by omega)]
        exact hS p' (by omega) ho
theorem k_split (hNf : 2100 ≤ N) (h : CI s z ow R K u y c) (hR : WF R) (hO : WO R) (hKF : WF K) : Rn (f_X11_split N z s) (KO z R K u c (sp_split R) s) := by
  have n3 := hR.1.2.2.2.1.2
  unfold f_X11_split
  refine rn_t (ks_o h.1 0 11 rfl) ?_
  exact ks_out hNf hR hO hKF (nn R 3) 0 N s (by omega) (by omega) RFR.rf ⟨ow, y, h⟩ (fun p' hp' _ => absurd hp' (Nat.not_lt_zero p'))
end SPK
