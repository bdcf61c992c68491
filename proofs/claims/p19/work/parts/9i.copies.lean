/-! copies() -/
def cpsF (R : Nat → Int32) (i j m : Nat) : Nat → Nat → Int32
  | 0 => R
  | k + 1 => cpR (cpsF R i j m k) (200 * k + i) (200 * k + j) m
def cpk (R : Nat → Int32) (i j m : Int32) : Nat → Nat → Nat
  | 0, g => g
  | k + 1, g => if agn R g i g j m = 0 then cpk R i j m k (g + 1) else g
def cpo (R : Nat → Int32) (i j m : Int32) (k : Nat) : Int32 × Option (Nat → Int32) := (nI k, if k = 0 then none else some (cpsF R i.toNatClampNeg j.toNatClampNeg m.toNatClampNeg k))
def sp_copies (R : Nat → Int32) (i j m : Int32) : Int32 × Option (Nat → Int32) := cpo R i j m (cpk R i j m (nn R 2) 0)
section CPS
variable {s s' s0 : AS} {sh : Sh} {d d' d0 : Dt} {z : Nat} {ow ow' : Nat → Nat} {R R' K : Nat → Int32} {u : Bool} {y : YL} {c N g k : Nat} {q q' : BL} {i j m : Int32}
/-- the first k gauges bear it -/
def cok (R : Nat → Int32) (i j m : Int32) (k : Nat) : Prop := k ≤ nn R 2 ∧ ∀ g, g < k → agn R g i g j m = 0
theorem cok_b (hR : WF R) (h : cok R i j m k) (hg : g < k) : j.toNatClampNeg + m.toNatClampNeg ≤ 200 ∧ i.toNatClampNeg + m.toNatClampNeg ≤ 200 := by
  have hg2 : g < nn R 2 := Nat.lt_of_lt_of_le hg h.1
  obtain ⟨ii, jj, mm, rfl, rfl, rfl, a1, a2, a3, a4⟩ := agn_0 hR.1 hR.2.1 hg2 hg2 (h.2 g hg)
  rw [nI_clamp (by omega), nI_clamp (by omega), nI_clamp (by omega)]
  omega
theorem cps_out (hR : WF R) {t : Nat} (ht : t < 1426 ∨ 9426 ≤ t) : ∀ k, cok R i j m k → cpsF R i.toNatClampNeg j.toNatClampNeg m.toNatClampNeg k t = R t
  | 0, _ => rfl
  | k + 1, h => by
    have n2 := hR.1.2.2.1.2
    have b := cok_b hR h (Nat.lt_succ_self k)
    have h1 := h.1
    show cpR _ _ _ _ t = R t
    rw [cp_out (by omega) ht]
    exact cps_out hR ht k ⟨by omega, fun g hg => h.2 g (by omega)⟩
theorem cps_nn (hR : WF R) {t : Nat} (ht : t < 1426 ∨ 9426 ≤ t) (h : cok R i j m k) : nn (cpsF R i.toNatClampNeg j.toNatClampNeg m.toNatClampNeg k) t = nn R t := by
  unfold nn
  rw [cps_out hR ht k h]
theorem cps_wdn (hR : WF R) (h : cok R i j m k) : WDn (cpsF R i.toNatClampNeg j.toNatClampNeg m.toNatClampNeg k) := by
  have w := wdn_of hR
  have n2 := hR.1.2.2.1.2
  refine ⟨?_, fun g hg => ?_, fun x hx => ?_⟩
  · unfold WN
    rw [cps_out hR (by omega) k h, cps_out hR (by omega) k h, cps_out hR (by omega) k h, cps_out hR (by omega) k h, cps_out hR (by omega) k h, cps_nn hR (by omega) h, cps_nn hR (by omega) h, cps_nn hR (by omega) h, cps_nn hR (by omega) h, cps_nn hR (by omega) h]
    exact hR.1
  · rw [cps_nn hR (by omega) h] at hg
    rw [cps_out hR (by omega) k h, cps_nn hR (by omega) h]
    exact hR.2.1 g hg
  · rw [cps_nn hR (by omega) h] at hx
    rw [cps_nn hR (by omega) h, cps_nn hR (by omega) h]
    exact w.2.2 x hx
theorem cps_agn (hR : WF R) (h : cok R i j m k) (hg : g < nn R 2) : agn (cpsF R i.toNatClampNeg j.toNatClampNeg m.toNatClampNeg k) g i g j m = agn R g i g j m := by
  have n2 := hR.1.2.2.1.2
  unfold agn mis okc
  rw [cps_out hR (by omega) k h, cps_nn hR (by omega) h]
theorem cok_s (h : cok R i j m k) (hk : k < nn R 2) (h0 : agn R k i k j m = 0) : cok R i j m (k + 1) := ⟨hk, fun g hg => by
  by_cases e : g = k
  · rw [e]
    exact h0
  · exact h.2 g (by omega)⟩
theorem mcps_loop (hNf : 15642 < N) (hK : KS sh z) (hR : WF R) : ∀ (n k fu : Nat) (d : Dt), k + n = nn R 2 → n + 1 < fu → cok R i j m k → MFR z d0 d → RI d z (cpsF R i.toNatClampNeg j.toNatClampNeg m.toNatClampNeg k) (if k = 0 then K else R) (if k = 0 then u else true) → Rn (f_X12_copies_6 N sh fu (z + 242) i j m (nI k) 0 d) (RO z R K u (cpo R i j m (cpk R i j m n k)) d0)
  | n, k, fu, d, hk, hf, hc, hM, hI => by
    obtain ⟨fu, rfl⟩ : ∃ q, fu = q + 1 := ⟨fu - 1, by omega⟩
    have n2 := hR.1.2.2.1
    have e2 : cpsF R i.toNatClampNeg j.toNatClampNeg m.toNatClampNeg k 2 = nI (nn R 2) := (cps_out hR (by omega) k hc).trans n2.1
    have fin : ∀ (v : Int32), Rn (f_X12_copies_66 N sh (z + 242) (nI k) v d) (RO z R K u (cpo R i j m k) d0) := fun v => by
      unfold f_X12_copies_66
      refine rn_bind (m_finds hK) (fun d1 hd => ?_)
      refine r_pI hK (i := 242) (c := 12) rfl (rn_some ⟨rfl, (hM.tr hd.mfr).tr (MFR.wI (by decide) (by decide)), ?_⟩)
      have r := ri_rg (ri_rg hI hd) (RG.w242 (k := 3) (v := v) (Or.inl rfl))
      unfold cpo
      by_cases h0 : k = 0
      · subst h0
        rw [if_pos rfl, if_pos rfl] at r
        exact r
      · rw [if_neg h0, if_neg h0] at r
        simp only [if_neg h0]
        exact r
    show Rn (g_X12_copies_6 N sh (f_X12_copies_6 N sh fu) (z + 242) i j m (nI k) 0 d) _
    unfold g_X12_copies_6
    refine rdg hK hI.1 2 rfl (by decide) ?_
    rw [e2]
    cases n with
    | zero =>
      refine rn_t (nI_le (by omega) (by omega)) ?_
      exact fin 0
    | succ n =>
      refine rn_f (nI_ge (by omega) (by omega)) ?_
      refine rn_f (fun q => q rfl) ?_
      have hk2 : k < nn R 2 := by omega
      have w := cps_wdn hR hc
      refine rn_eq (m_against hK w.1 w.2.1 hI.1 (by rw [cps_nn hR (by omega) hc]; exact hk2) (by rw [cps_nn hR (by omega) hc]; exact hk2)) ?_
      rw [cps_agn hR hc hk2]
      by_cases h0 : agn R k i k j m = 0
      · refine rn_f (fun q => q h0) ?_
        have ih := mcps_loop hNf hK hR n (k + 1) fu
        have eo : cpk R i j m (n + 1) k = cpk R i j m n (k + 1) := if_pos h0
        rw [eo, h0]
        have fin2 : ∀ d1, MFR z d0 d1 → RI d1 z (cpsF R i.toNatClampNeg j.toNatClampNeg m.toNatClampNeg k) R true → Rn (f_X12_copies_49 N sh (f_X12_copies_6 N sh fu) (z + 242) i j m (nI k) 0 d1) (RO z R K u (cpo R i j m (cpk R i j m n (k + 1))) d0) := fun d1 hM1 hI1 => by
          unfold f_X12_copies_49
          refine rn_bind (m_brings (by omega) hK w.1 w.2.1 hI1 (by rw [cps_nn hR (by omega) hc]; exact hk2) (by rw [cps_nn hR (by omega) hc]; exact hk2) (by rw [cps_agn hR hc hk2]; exact h0)) (fun d2 hd2 => ?_)
          rw [nI_1]
          refine ih d2 (by omega) (by omega) (cok_s hc hk2 h0) (hM1.tr hd2.1) ?_
          rw [if_neg (Nat.succ_ne_zero k), if_neg (Nat.succ_ne_zero k)]
          exact hd2.2
        by_cases hk0 : k = 0
        · subst hk0
          rw [if_pos rfl, if_pos rfl] at hI
          refine rn_f (fun q => q rfl) ?_
          refine rn_bind (ri_keeps hI hK hNf) (fun d1 hd => ?_)
          exact fin2 d1 (hM.tr hd.2) hd.1
        · rw [if_neg hk0, if_neg hk0] at hI
          refine rn_t (nI_ne0 (by omega) (by omega)) ?_
          exact fin2 d hM hI
      · refine rn_t h0 ?_
        have eo : cpk R i j m (n + 1) k = k := if_neg h0
        rw [eo]
        obtain ⟨fu, rfl⟩ : ∃ q, fu = q + 1 := ⟨fu - 1, by omega⟩
        show Rn (g_X12_copies_6 N sh (f_X12_copies_6 N sh fu) (z + 242) i j m (nI k) (agn R k i k j m) d) _
        unfold g_X12_copies_6
        refine rdg hK hI.1 2 rfl (by decide) ?_
        rw [e2]
        refine rn_f (nI_ge (by omega) (by omega)) ?_
        refine rn_t h0 ?_
        exact fin _
theorem m_copies (hNf : 15642 < N) (hK : KS sh z) (h : RI d z R K u) (hR : WF R) : Rn (f_X12_copies N sh (z + 242) i j m d) (RO z R K u (sp_copies R i j m) d) := by
  have n2 := hR.1.2.2.1.2
  unfold f_X12_copies
  refine rn_t (ks_o hK 242 12 rfl) ?_
  exact mcps_loop hNf hK hR (nn R 2) 0 N d (by omega) (by omega) ⟨Nat.zero_le _, fun g hg => absurd hg (Nat.not_lt_zero g)⟩ MFR.rf h
/-- the class behind k gauges -/
def CPI (s0 : AS) (z : Nat) (R K : Nat → Int32) (u : Bool) (c : Nat) (i j m : Int32) (k : Nat) (s : AS) : Prop := (k = 0 ∧ s = s0 ∧ ∃ ow y, CI s z ow R K u y c) ∨ (k ≠ 0 ∧ RFR z s0 s ∧ ∃ ow yy q, CJ s z ow R yy c (pot q) ∧ BK s.1 s.2 z ow 3 (cpsF R i.toNatClampNeg j.toNatClampNeg m.toNatClampNeg k) q ∧ PB s.1 s.2 z ow (cpsF R i.toNatClampNeg j.toNatClampNeg m.toNatClampNeg k))
theorem kcps_loop (hNf : 300 ≤ N) (hR : WF R) (hKF : WF K) : ∀ (n k fu : Nat) (s : AS), k + n = nn R 2 → n < fu → cok R i j m k → CPI s0 z R K u c i j m k s → Rn (f_X11_copies_6 N fu z i j m (nI k) (nI k) s) (KO z R K u c (cpo R i j m (cpk R i j m n k)) s0)
  | n, k, fu, s, hk, hf, hc, hI => by
    obtain ⟨fu, rfl⟩ : ∃ q, fu = q + 1 := ⟨fu - 1, by omega⟩
    have n2 := hR.1.2.2.1.2
    obtain ⟨ow, q, hK, hB⟩ : ∃ ow q, KS s.1 z ∧ BK s.1 s.2 z ow 3 (cpsF R i.toNatClampNeg j.toNatClampNeg m.toNatClampNeg k) q := by
      rcases hI with ⟨rfl, rfl, ow, y, h⟩ | ⟨_, _, ow, yy, q, h, hb, _⟩
      · exact ⟨ow, y.1, h.1, h.2.2.1⟩
      · exact ⟨ow, q, h.1, hb⟩
    have fin : ∀ d', LG z s.2 d' → KO z R K u c (cpo R i j m k) s0 (nI k, (s.1, d')) := fun d' hl => by
      rcases hI with ⟨h0, rfl, ow, y, h⟩ | ⟨h0, hf1, ow, yy, q, h, hb, hp⟩
      · have q3 := ci_lg h hl
        refine ⟨rfl, q3.2, ow, y, ?_⟩
        unfold cpo
        simp only [if_pos h0]
        exact q3.1
      · have q3 := ci_lg (cj_ci h hb hp) hl
        refine ⟨rfl, hf1.tr q3.2, ow, (q, yy), ?_⟩
        unfold cpo
        simp only [if_neg h0]
        exact q3.1
    show Rn (g_X11_copies_6 N (f_X11_copies_6 N fu) z i j m (nI k) (nI k) s) _
    unfold g_X11_copies_6
    refine r_now hK 2 15 (by decide) ?_
    refine r_gI hK (i := 15) (c := 8) rfl ?_
    rw [hB.2.2.1.1, cps_nn hR (by omega) hc]
    cases n with
    | zero =>
      refine rn_t (nI_le (by omega) (by omega)) ?_
      unfold f_X11_copies_84
      refine rn_bind (k_answer hK) (fun r hr => rn_some ?_)
      rw [hr.1]
      exact fin _ hr.2
    | succ n =>
      refine rn_f (nI_ge (by omega) (by omega)) ?_
      have hk2 : k < nn R 2 := by omega
      have w := cps_wdn hR hc
      have hk3 : k < nn (cpsF R i.toNatClampNeg j.toNatClampNeg m.toNatClampNeg k) 2 := by rw [cps_nn hR (by omega) hc]; exact hk2
      refine r_gP hK 0 11 1 3 rfl (by decide) ?_
      refine rn_eq (k_whyUncopied hK w.1 w.2.1 hB hk3 hk3) ?_
      rw [cps_agn hR hc hk2]
      by_cases h0 : agn R k i k j m = 0
      · refine rn_t h0 ?_
        have ih := kcps_loop hNf hR hKF n (k + 1) fu
        have eo : cpk R i j m (n + 1) k = cpk R i j m n (k + 1) := if_pos h0
        rw [eo]
        have fin2 : ∀ s1 ow yy q, RFR z s0 s1 → CJ s1 z ow R yy c (pot q) → BK s1.1 s1.2 z ow 3 (cpsF R i.toNatClampNeg j.toNatClampNeg m.toNatClampNeg k) q → PB s1.1 s1.2 z ow (cpsF R i.toNatClampNeg j.toNatClampNeg m.toNatClampNeg k) → Rn (f_X11_copies_61 N (f_X11_copies_6 N fu) z i j m (nI k) (nI k) s1) (KO z R K u c (cpo R i j m (cpk R i j m n (k + 1))) s0) := fun s1 ow yy q hf1 hJ hb hp => by
          unfold f_X11_copies_61
          refine r_gP hJ.1 0 11 1 3 rfl (by decide) ?_
          refine rn_bind (k_copyR hJ.1 hJ.2.1 w hb hk3 hk3 (by rw [cps_agn hR hc hk2]; exact h0)) (fun d1 hd => ?_)
          rw [nI_1]
          have e1 : ES (IX z ow 3 3) s1 ow (s1.1, d1) ow := FD.es (sh := s1.1) (d := s1.2) hd.1
          have j1 := cj_es (c' := c) (P' := pot q) hJ e1 (by omega) (Nat.le_refl _) (Nat.le_refl _)
          have hc2 := cok_s hc hk2 h0
          have b := cok_b hR hc2 (Nat.lt_succ_self k)
          have hp1 := pb_ix hp hJ.1 hJ.2.1 e1 (by omega) (by omega)
          refine ih (s1.1, d1) (by omega) (by omega) hc2 (Or.inr ⟨Nat.succ_ne_zero k, hf1.tr j1.2, ow, yy, q, j1.1, hd.2, ?_⟩)
          exact pb_congr hp1 (cp_out (by omega) (by omega)) (fun x hx => cp_out (by omega) (by omega))
        rcases hI with ⟨hk0, rfl, ow, y, h⟩ | ⟨hk0, hf1, ow, yy, q, h, hb, hp⟩
        · subst hk0
          refine rn_f (fun q => q rfl) ?_
          refine rn_bind (ci_change (by omega) h hR.1 hR.2.1 hKF.1) (fun s1 hs => ?_)
          obtain ⟨f1, g1, g2, g3, ow1, y1, -, c1⟩ := hs
          exact fin2 s1 ow1 y1.2 y1.1 f1 (cj_of c1 g1 g2 g3) c1.2.2.1 c1.2.2.2.2.2.1
        · refine rn_t (nI_ne0 (by omega) (by omega)) ?_
          exact fin2 s ow yy q hf1 h hb hp
      · refine rn_f h0 ?_
        have eo : cpk R i j m (n + 1) k = k := if_neg h0
        rw [eo]
        unfold f_X11_copies_42
        refine rn_bind (k_refuse hK) (fun r hr => rn_some ?_)
        exact fin _ hr.2
theorem k_copies (hNf : 300 ≤ N) (h : CI s z ow R K u y c) (hR : WF R) (hKF : WF K) : Rn (f_X11_copies N z i j m s) (KO z R K u c (sp_copies R i j m) s) := by
  have n2 := hR.1.2.2.1.2
  unfold f_X11_copies
  refine rn_t (ks_o h.1 0 11 rfl) ?_
  exact kcps_loop hNf hR hKF (nn R 2) 0 N s (by omega) (by omega) ⟨Nat.zero_le _, fun g hg => absurd hg (Nat.not_lt_zero g)⟩ (Or.inl ⟨rfl, rfl, ow, y, h⟩)
end CPS
