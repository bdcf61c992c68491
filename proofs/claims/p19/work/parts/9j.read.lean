/-! readings as floats: read(), what a gauge tells -/
def bm (a : UInt32) (K : Nat) : Prop := a.toNat % 2 ^ 31 < K * 2 ^ 23
theorem bm_some {a : UInt32} {K : Nat} (h : bm a K) (hK : K ≤ 255) : o_n32 a = some a := if_pos (ff_n32 ((FP.Core.ne_nan32 a).mpr (by unfold bm at h; omega)))
theorem bm_mono {a : UInt32} {K L : Nat} (h : bm a K) (hK : K ≤ L) : bm a L := Nat.lt_of_lt_of_le h (Nat.mul_le_mul_right _ hK)
theorem bm_i2f (v : Int32) : bm (FP.i2f v) 160 := FP.Core.i2f_mag v
theorem bm_div {a b : UInt32} (h : bm a 160) (hb : b = 1090519040 ∨ b = 1092616192) : bm (FP.fdiv a b) 158 := by
  rcases hb with rfl | rfl
  · exact FP.Core.fdiv_mag (K := 160) (L := 130) h (by decide) (by decide) (by decide) (by decide)
  · exact FP.Core.fdiv_mag (K := 160) (L := 130) h (by decide) (by decide) (by decide) (by decide)
theorem bm_mul10 {a : UInt32} {K : Nat} (h : bm a K) (hK : K ≤ 255) : bm (FP.fmul a 1092616192) (K + 131 - 129 + 3) := FP.Core.fmul_mag (Ka := K) (Kb := 131) h (by decide) hK (by decide)
def rx (R : Nat → Int32) (g h : Nat) : UInt32 := FP.fdiv (FP.i2f (R (1426 + 200 * g + h))) (if R (1366 + 3 * g + 1) = 0 then 1090519040 else 1092616192)
/-- what a gauge tells, if it tells -/
def gx (R : Nat → Int32) (g h : Nat) : UInt32 := if 0 ≤ (Op.cmpValue (FP.fcmp (rx R g h) FP.fconst0) .g) then rx R g h else FP.fconst0
def cap (w : Int32) : Int32 := if w < 100000 then w else 100000
def brs (R : Nat → Int32) (g : Nat) (h : Int32) : Int32 := if R (1366 + 3 * g + 2) = -1 then -4 else if h < 0 ∨ R (1366 + 3 * g + 2) ≤ h then -5 else 0
def tnt (R : Nat → Int32) (g h : Nat) : Int32 := if R (5426 + 200 * g + h) = 0 then cap (FP.f2i (FP.fmul (gx R g h) 1092616192)) else -1
section RDG
variable {s s' : AS} {sh : Sh} {d d' d0 : Dt} {z : Nat} {ow ow' : Nat → Nat} {R R' K : Nat → Int32} {u : Bool} {y : YL} {c N g h : Nat} {q q' : BL}
theorem rx_bm : bm (rx R g h) 158 := by
  unfold rx
  refine bm_div (bm_i2f _) ?_
  by_cases e : R (1366 + 3 * g + 1) = 0
  · exact Or.inl (if_pos e)
  · exact Or.inr (if_neg e)
theorem gx_bm : bm (gx R g h) 158 := by
  unfold gx
  split
  · exact rx_bm
  · show (0 : Nat) % 2 ^ 31 < 158 * 2 ^ 23
    decide
theorem c0_ge : (0 : Int32) ≤ (Op.cmpValue (FP.fcmp FP.fconst0 FP.fconst0) .g) := by decide +kernel
theorem cm_lt : ¬ (0 : Int32) ≤ (Op.cmpValue (FP.fcmp 3212836864 FP.fconst0) .g) := by decide +kernel
theorem gx_ge : (0 : Int32) ≤ (Op.cmpValue (FP.fcmp (gx R g h) FP.fconst0) .g) := by
  by_cases e : 0 ≤ (Op.cmpValue (FP.fcmp (rx R g h) FP.fconst0) .g)
  · rw [show gx R g h = rx R g h from if_pos e]
    exact e
  · rw [show gx R g h = FP.fconst0 from if_neg e]
    exact c0_ge
theorem m_x (hK : KS sh z) (hA : AG (d.1 (z + 243)) R) (hg : g < 20) (hh : h < 200) : f_X12_x N sh (z + 242) (nI g) (nI h) d = some (gx R g h) := by
  refine rn_val ?_
  unfold f_X12_x f_X12_x_45 f_X12_x_60
  refine rn_t (ks_o hK 242 12 rfl) ?_
  refine rdg hK hA (1426 + 200 * g + h) (ix_rd 1426 g h) (by omega) ?_
  refine rdga hK hA 1 hg (by decide) rfl ?_
  have b := rx_bm (R := R) (g := g) (h := h)
  have fin : Rn (if 0 ≤ (Op.cmpValue (FP.fcmp (rx R g h) FP.fconst0) .g) then some (rx R g h) else some FP.fconst0) (fun r => r = gx R g h) := by
    unfold gx
    by_cases e : 0 ≤ (Op.cmpValue (FP.fcmp (rx R g h) FP.fconst0) .g)
    · rw [if_pos e, if_pos e]
      exact rn_some rfl
    · rw [if_neg e, if_neg e]
      exact rn_some rfl
  by_cases e : R (1366 + 3 * g + 1) = 0
  · refine rn_f (fun q => q e) ?_
    have er : rx R g h = FP.fdiv (FP.i2f (R (1426 + 200 * g + h))) 1090519040 := by unfold rx; rw [if_pos e]
    rw [← er]
    exact rn_eq (bm_some b (by decide)) fin
  · refine rn_t e ?_
    have er : rx R g h = FP.fdiv (FP.i2f (R (1426 + 200 * g + h))) 1092616192 := by unfold rx; rw [if_neg e]
    rw [← er]
    exact rn_eq (bm_some b (by decide)) fin
theorem m_tells (hK : KS sh z) (hA : AG (d.1 (z + 243)) R) (hg : g < 20) (hh : h < 200) : f_X12_tells N sh (z + 242) (nI g) (nI h) d = some (tnt R g h) := by
  refine rn_val ?_
  unfold f_X12_tells f_X12_tells_36 tnt
  refine rn_t (ks_o hK 242 12 rfl) ?_
  refine rdg hK hA (5426 + 200 * g + h) (ix_rd 5426 g h) (by omega) ?_
  by_cases e : R (5426 + 200 * g + h) = 0
  · refine rn_t e ?_
    rw [if_pos e]
    refine rn_eq (m_x hK hA hg hh) ?_
    refine rn_eq (bm_some (bm_mul10 gx_bm (by decide)) (by decide)) ?_
    exact rn_eq (m_whole hK) (rn_some rfl)
  · refine rn_f e ?_
    rw [if_neg e]
    exact rn_some rfl
theorem m_bars {x : Int32} (hK : KS sh z) (hA : AG (d.1 (z + 243)) R) (hN : WN R) (hG : WG R) (hg : g < nn R 2) : f_X12_bars N sh (z + 242) (nI g) x d = some (brs R g x) := by
  have n2 := hN.2.2.1.2
  have g1 := hG g hg
  refine rn_val ?_
  unfold f_X12_bars f_X12_bars_39 brs
  refine rn_t (ks_o hK 242 12 rfl) ?_
  refine rdga hK hA 2 (by omega) (by decide) rfl ?_
  by_cases h1 : R (1366 + 3 * g + 2) = -1
  · rw [if_pos h1]
    exact rn_f (by rw [h1]; decide) (rn_some rfl)
  have e1 := g1.1.resolve_left h1
  rw [if_neg h1, e1]
  refine rn_t (nI_pos' (by omega)) ?_
  refine rn_eq m_in ?_
  simp only [lt_pred (show nn R (1366 + 3 * g + 2) < 2 ^ 31 by omega)]
  by_cases h2 : x < 0 ∨ nI (nn R (1366 + 3 * g + 2)) ≤ x
  · rw [if_pos h2, if_pos h2]
    exact rn_t rfl (rn_some rfl)
  · rw [if_neg h2, if_neg h2]
    exact rn_f (by decide) (rn_some rfl)
theorem brs_0 {x : Int32} (hN : WN R) (hG : WG R) (hg : g < nn R 2) (h0 : brs R g x = 0) : ∃ hh, hh < nn R (1366 + 3 * g + 2) ∧ x = nI hh ∧ hh < 200 := by
  have g1 := hG g hg
  unfold brs at h0
  by_cases h1 : R (1366 + 3 * g + 2) = -1
  · rw [if_pos h1] at h0
    exact absurd h0 (by decide)
  rw [if_neg h1, g1.1.resolve_left h1] at h0
  by_cases h2 : x < 0 ∨ nI (nn R (1366 + 3 * g + 2)) ≤ x
  · rw [if_pos h2] at h0
    exact absurd h0 (by decide)
  · obtain ⟨hh, b1, b2, -⟩ := st_of (by omega) h2
    exact ⟨hh, b1, b2, by omega⟩
theorem m_read {x x2 : Int32} (hK : KS sh z) (hI : RI d z R K u) (hR : WF R) : Rn (f_X12_read N sh (z + 242) x x2 d) (RR z R K u d) := by
  have n2 := hR.1.2.2.1.2
  unfold f_X12_read f_X12_read_44
  refine rn_t (ks_o hK 242 12 rfl) ?_
  refine rn_eq (ri_isGauge hK hI hR.1) ?_
  refine rn_ite (fun h1 => ?_) (fun h1 => rr_refuses hK hI MFR.rf)
  obtain ⟨g, hg, rfl, -⟩ := st_of (by omega) (fun q => h1 (ite01.mpr q))
  refine rn_eq (m_bars hK hI.1 hR.1 hR.2.1 hg) ?_
  refine rn_ite (fun h2 => ?_) (fun h2 => rr_refuses hK hI MFR.rf)
  obtain ⟨hh, b1, rfl, b3⟩ := brs_0 hR.1 hR.2.1 hg h2
  refine rn_eq (m_tells hK hI.1 (by omega) b3) ?_
  exact rr_says hK hI MFR.rf
/-! the class -/
theorem k_whyUnread {x : Int32} (hK : KS sh z) (hG : WG R) (hB : BK sh d z ow 3 R q) (hg : g < nn R 2) : f_X1_whyUnread N sh (z + 3) (nI g) x d = some (brs R g x) := by
  have g1 := hG g hg
  refine rn_val ?_
  unfold f_X1_whyUnread f_X1_whyUnread_28 f_X1_whyUnread_34 brs
  refine rn_t (ks_o hK 3 1 rfl) ?_
  refine rn_eq (k_isMissing (b := 3) (Or.inl rfl) hK hB.bt.1 hg) ?_
  by_cases h1 : R (1366 + 3 * g + 2) = -1
  · rw [if_pos h1, if_pos h1]
    exact rn_f (by decide) (rn_some rfl)
  rw [if_neg h1, if_neg h1]
  refine rn_t rfl ?_
  by_cases h2 : x < 0
  · rw [if_pos (Or.inl h2)]
    exact rn_t h2 (rn_some rfl)
  refine rn_f h2 ?_
  refine r_gP hK 3 1 2 15 rfl (by decide) ?_
  refine rn_eq (tb_get (o := 15) (nc := 3) (c := 2) hK (by decide) hB.2.2.1 rfl hg rfl (by decide)) ?_
  have ev : vG R 2 g = R (1366 + 3 * g + 2) := rfl
  rw [ev]
  by_cases h3 : R (1366 + 3 * g + 2) ≤ x
  · rw [if_pos (Or.inr h3)]
    exact rn_f (Int32.not_lt.mpr h3) (rn_some rfl)
  · rw [show (if x < 0 ∨ R (1366 + 3 * g + 2) ≤ x then (-5 : Int32) else 0) = 0 from if_neg (fun q => q.elim h2 h3)]
    exact rn_t (Int32.not_le.mp h3) (rn_some rfl)
theorem k_height (hK : KS sh z) (hN : WN R) (hG : WG R) (hC : WC R) (hB : BK sh d z ow 3 R q) (hg : g < nn R 2) (hh : h < nn R (1366 + 3 * g + 2)) : f_X1_height N sh (z + 3) (nI g) (nI h) d = some (if R (5426 + 200 * g + h) = 0 then gx R g h else 3212836864) := by
  have n2 := hN.2.2.1.2
  have g1 := hG g hg
  have hL := hB.bt.1.2.2.2.2.2.1
  obtain ⟨a, z1, z2, z3, z4, z5, z6⟩ := hB.bt.2
  have hin : inC R (200 * g + h) := ⟨g, h, hg, hh, rfl⟩
  obtain ⟨l1, l2⟩ := z6 _ hin
  have hm := hC.2 _ hin
  have e5 : 5426 + (200 * g + h) = 5426 + 200 * g + h := by omega
  have e1 : nI g * (200 : Int32) + nI h = nI (200 * g + h) := by
    rw [show (200 : Int32) = nI 200 from rfl, pk_mul, nI_add, Nat.mul_comm g 200]
  refine rn_val ?_
  unfold f_X1_height f_X1_height_37 f_X1_height_71 f_X1_height_86
  refine rn_t (ks_o hK 3 1 rfl) ?_
  refine rn_eq (v := nI (200 * g + h)) ?_ ?_
  · refine rn_val ?_
    unfold f_X1_cellAt
    refine rn_t (ks_o hK 3 1 rfl) ?_
    refine r_gP hK 3 1 2 15 rfl (by decide) ?_
    refine rn_eq (tb_has (o := 15) (nc := 3) hK (by decide) hB.2.2.1) ?_
    refine rn_f (fun q => absurd (ite01.mp q) (fun q => q.elim (nI_pos (by omega)) (nI_ge hg (by omega)))) ?_
    refine rn_f (nI_pos (by omega)) ?_
    refine rn_f (nI_ge (b := 200) (by omega) (by decide)) ?_
    unfold f_X1_cellAt_27
    refine rn_f (by decide) ?_
    unfold f_X1_cellAt_43
    refine r_gQ hK a z1 (i := 3) (c := 1) rfl ?_
    refine rn_eq (q_len ⟨z3, z4⟩ (by decide)) ?_
    rw [e1]
    refine rn_f (nI_ge (by omega) (by omega)) ?_
    exact rn_some rfl
  refine rn_f (nI_pos (by omega)) ?_
  refine r_gQ hK a z1 (i := 3) (c := 1) rfl ?_
  refine rn_eq (q_aJ ⟨z3, z4⟩ (200 * g + h) rfl (by omega) (by omega)) ?_
  rw [l2]
  have v1 : vC R (200 * g + h) = if R (5426 + (200 * g + h)) = 1 then 1099511627776 else if R (5426 + (200 * g + h)) = 2 then 2199023255552 else (R (1426 + (200 * g + h))).toInt64 := rfl
  rcases hm with e | e | e
  · rw [e5] at e
    have ev : vC R (200 * g + h) = (R (1426 + 200 * g + h)).toInt64 := by
      rw [v1, e5, e, show 1426 + (200 * g + h) = 1426 + 200 * g + h by omega]
      rfl
    have b1 := Int32.toInt_lt (R (1426 + 200 * g + h))
    have nb : ∀ w : Int64, 2 ^ 32 ≤ w.toInt → ¬ lg_cmp (vC R (200 * g + h)) w = 0 := fun w hw h9 => by
      have := cmp0.mp h9
      rw [ev] at this
      have h8 := congrArg Int64.toInt this
      rw [Int32.toInt_toInt64] at h8
      omega
    rw [if_pos e]
    refine rn_f (nb _ (by decide)) ?_
    refine r_gQ hK a z1 (i := 3) (c := 1) rfl ?_
    refine rn_eq (q_aJ ⟨z3, z4⟩ (200 * g + h) rfl (by omega) (by omega)) ?_
    rw [l2]
    refine rn_t (nb _ (by decide)) ?_
    refine r_gQ hK a z1 (i := 3) (c := 1) rfl ?_
    refine rn_eq (q_aJ ⟨z3, z4⟩ (200 * g + h) rfl (by omega) (by omega)) ?_
    rw [l2, ev]
    refine rn_eq (k_isOfShorts hC hK hB.2.2.1 hg) ?_
    have b := rx_bm (R := R) (g := g) (h := h)
    have t32 : (R (1426 + 200 * g + h)).toInt64.toInt32 = R (1426 + 200 * g + h) := Int32.toInt32_toInt64 _
    rw [t32]
    have fin : Rn (if 0 ≤ (Op.cmpValue (FP.fcmp (rx R g h) FP.fconst0) .g) then some (rx R g h) else some FP.fconst0) (fun r => r = gx R g h) := by
      unfold gx
      by_cases e : 0 ≤ (Op.cmpValue (FP.fcmp (rx R g h) FP.fconst0) .g)
      · rw [if_pos e, if_pos e]
        exact rn_some rfl
      · rw [if_neg e, if_neg e]
        exact rn_some rfl
    by_cases e2 : R (1366 + 3 * g + 1) = 0
    · refine rn_t e2 ?_
      have er : rx R g h = FP.fdiv (FP.i2f (R (1426 + 200 * g + h))) 1090519040 := by unfold rx; rw [if_pos e2]
      rw [← er]
      exact rn_eq (bm_some b (by decide)) fin
    · refine rn_f e2 ?_
      have er : rx R g h = FP.fdiv (FP.i2f (R (1426 + 200 * g + h))) 1092616192 := by unfold rx; rw [if_neg e2]
      rw [← er]
      exact rn_eq (bm_some b (by decide)) fin
  · rw [e5] at e
    rw [v1, e5, e, if_pos rfl]
    rw [show (if (1 : Int32) = 0 then gx R g h else (3212836864 : UInt32)) = 3212836864 from if_neg (by decide)]
    exact rn_t (cmp0.mpr rfl) (rn_some rfl)
  · rw [e5] at e
    rw [v1, e5, e, if_neg (show ¬ (2 : Int32) = 1 by decide), if_pos rfl]
    rw [show (if (2 : Int32) = 0 then gx R g h else (3212836864 : UInt32)) = 3212836864 from if_neg (by decide)]
    refine rn_f (fun q => absurd (cmp0.mp q) (by decide)) ?_
    refine r_gQ hK a z1 (i := 3) (c := 1) rfl ?_
    refine rn_eq (q_aJ ⟨z3, z4⟩ (200 * g + h) rfl (by omega) (by omega)) ?_
    rw [l2, v1, e5, e, if_neg (show ¬ (2 : Int32) = 1 by decide), if_pos rfl]
    exact rn_f (fun q => q (cmp0.mpr rfl)) (rn_some rfl)
theorem k_tenths (hK : KS sh z) (hN : WN R) (hG : WG R) (hC : WC R) (hB : BK sh d z ow 3 R q) (hg : g < nn R 2) (hh : h < nn R (1366 + 3 * g + 2)) : f_X1_tenths N sh (z + 3) (nI g) (nI h) d = some (tnt R g h) := by
  refine rn_val ?_
  unfold f_X1_tenths f_X1_tenths_27 tnt
  refine rn_t (ks_o hK 3 1 rfl) ?_
  refine rn_eq (k_height hK hN hG hC hB hg hh) ?_
  by_cases e : R (5426 + 200 * g + h) = 0
  · rw [if_pos e, if_pos e]
    refine rn_t gx_ge ?_
    exact rn_eq (bm_some (bm_mul10 gx_bm (by decide)) (by decide)) (rn_some rfl)
  · rw [if_neg e, if_neg e]
    exact rn_f cm_lt (rn_some rfl)
theorem k_read {x x2 : Int32} (hC : CI s z ow R K u y c) (hR : WF R) : Rn (f_X11_read N s.1 z x x2 s.2) (KR z R K u c s) := by
  have hK := hC.1
  have n2 := hR.1.2.2.1.2
  have hB : BK s.1 s.2 z ow 3 R y.1 := hC.2.2.1
  unfold f_X11_read f_X11_read_56
  refine rn_t (ks_o hK 0 11 rfl) ?_
  refine r_now hK 2 15 (by decide) ?_
  refine rn_eq (tb_has (o := 15) (nc := 3) hK (by decide) hB.2.2.1) ?_
  refine rn_ite (fun h1 => ?_) (fun h1 => kr_refuses hC)
  obtain ⟨g, hg, rfl, -⟩ := st_of (by omega) (fun q => h1 (ite01.mpr q))
  refine r_gP hK 0 11 1 3 rfl (by decide) ?_
  refine rn_eq (k_whyUnread hK hR.2.1 hB hg) ?_
  refine rn_ite (fun h2 => ?_) (fun h2 => kr_refuses hC)
  obtain ⟨hh, b1, rfl, b3⟩ := brs_0 hR.1 hR.2.1 hg h2
  refine r_gP hK 0 11 1 3 rfl (by decide) ?_
  refine rn_eq (k_tenths hK hR.1 hR.2.1 hR.2.2.2.1 hB hg b1) ?_
  exact kr_says hC
end RDG
