section T2
variable {s : AS} {sh : Sh} {d : Dt} {z : Nat} {ow : Nat → Nat} {R R' K : Nat → Int32} {u : Bool} {y : YL} {c N : Nat}
theorem ri_nn (h : RI d z R K u) {k : Nat} (hk : k < 15642) : nn (d.1 (z + 243)) k = nn R k := by
  unfold nn
  rw [h.1 k hk]
theorem ri_isCrossing {v : Int32} (hK : KS sh z) (h : RI d z R K u) (hN : WN R) : f_X12_isCrossing N sh (z + 242) v d = some (if v < 0 ∨ nI (nn R 0) ≤ v then 0 else 1) := by
  have e := ri_nn h (k := 0) (by decide)
  have b := hN.1.2
  rw [m_isCrossing hK rfl (by rw [e, h.1 0 (by decide)]; exact hN.1.1) (by omega), e]
theorem ri_isStreet {v : Int32} (hK : KS sh z) (h : RI d z R K u) (hN : WN R) : f_X12_isStreet N sh (z + 242) v d = some (if v < 0 ∨ nI (nn R 1) ≤ v then 0 else 1) := by
  have e := ri_nn h (k := 1) (by decide)
  have b := hN.2.1.2
  rw [m_isStreet hK rfl (by rw [e, h.1 1 (by decide)]; exact hN.2.1.1) (by omega), e]
theorem ri_isGauge {v : Int32} (hK : KS sh z) (h : RI d z R K u) (hN : WN R) : f_X12_isGauge N sh (z + 242) v d = some (if v < 0 ∨ nI (nn R 2) ≤ v then 0 else 1) := by
  have e := ri_nn h (k := 2) (by decide)
  have b := hN.2.2.1.2
  rw [m_isGauge hK rfl (by rw [e, h.1 2 (by decide)]; exact hN.2.2.1.1) (by omega), e]
theorem ri_isPlough {v : Int32} (hK : KS sh z) (h : RI d z R K u) (hN : WN R) : f_X12_isPlough N sh (z + 242) v d = some (if v < 0 ∨ nI (nn R 3) ≤ v then 0 else 1) := by
  have e := ri_nn h (k := 3) (by decide)
  have b := hN.2.2.2.1.2
  rw [m_isPlough hK rfl (by rw [e, h.1 3 (by decide)]; exact hN.2.2.2.1.1) (by omega), e]
theorem ro_refuses {v : Int32} {o : Int32 × Option (Nat → Int32)} (hK : KS sh z) (h : RI d z R K u) (ho : o = (v, none)) : Rn ((f_X12_refuses N sh (z + 242) v d).bind fun r => some (r.1, r.2)) (RO z R K u o d) := by
  subst ho
  refine rn_bind (m_refuses hK) (fun r hr => ?_)
  exact rn_some ⟨hr.1, hr.2.mfr, ri_rg h hr.2⟩
/-- says() at the end of a call that changes nothing -/
theorem ro_says {v : Int32} {o : Int32 × Option (Nat → Int32)} (hK : KS sh z) (h : RI d z R K u) (ho : o = (v, none)) : Rn ((f_X12_says N sh (z + 242) v d).bind fun r => some (r.1, r.2)) (RO z R K u o d) := by
  subst ho
  refine rn_eq (m_says hK) ?_
  exact rn_some ⟨rfl, MFR.wI (by decide) (by decide), ri_rg h (RG.w242 (Or.inl rfl))⟩
/-- says() at the end of a CHANGE -/
theorem ro_done {d0 d1 : Dt} {v : Int32} {o : Int32 × Option (Nat → Int32)} (hK : KS sh z) (h : RI d1 z R' R true) (hm : MFR z d0 d1) (ho : o = (v, some R')) : Rn ((f_X12_says N sh (z + 242) v d1).bind fun r => some (r.1, r.2)) (RO z R K u o d0) := by
  subst ho
  refine rn_eq (m_says hK) ?_
  exact rn_some ⟨rfl, hm.tr (MFR.wI (by decide) (by decide)), ri_rg h (RG.w242 (Or.inl rfl))⟩
/-- one cell of the state is written; the ways are as they were -/
theorem ri_cell {j : Nat} {v : Int32} (h : RI d z R K u) (hr : d.1 (z + 242) 10 = 0) : RI (wI d (z + 243) j v) z (va_up R j v) K u ∧ (wI d (z + 243) j v).1 (z + 242) 10 = 0 := by
  obtain ⟨h1, h2, h3, h4, h6⟩ := h
  have e : (wI d (z + 243) j v).1 (z + 242) = d.1 (z + 242) := wI_n (by omega)
  have e2 : (wI d (z + 243) j v).1 (z + 244) = d.1 (z + 244) := wI_n (by omega)
  refine ⟨⟨fun k hk => ?_, by rw [e2]; exact h2, by rw [e]; exact h3, by rw [e]; exact h4, Or.inl (by rw [e]; exact hr)⟩, by rw [e]; exact hr⟩
  rw [wI_s]
  unfold va_up
  by_cases ek : k = j
  · rw [if_pos ek, if_pos ek]
  · rw [if_neg ek, if_neg ek]
    exact h1 k hk
theorem ri_unreck (h : RI d z R K u) : RI (wI d (z + 242) 10 0) z R K u ∧ (wI d (z + 242) 10 0).1 (z + 242) 10 = 0 := by
  have e : (wI d (z + 242) 10 0).1 (z + 242) 10 = 0 := by rw [wI_s, va_up_s]
  exact ⟨ri_put h wI_s (by rw [wI_n (by omega)]; exact h.1) (wI_n (by omega)), e⟩
theorem m_turned {x b : Int32} {k : Nat} (hk : k < 9) (hNf : 15642 < N) (hK : KS sh z) (h : RI d z R K u) (hN : WN R) : Rn (f_X12_turned N sh (z + 242) x (nI k) b d) (RO z R K u (sp_turn R x k (if b = 0 then 0 else 1)) d) := by
  have n1 := hN.2.1.2
  unfold f_X12_turned
  refine rn_t (ks_o hK 242 12 rfl) ?_
  refine rn_eq (ri_isStreet hK h hN) ?_
  unfold sp_turn
  refine rn_ite (fun h1 => ?_) (fun h1 => ?_)
  · have h2 : ¬ (x < 0 ∨ nI (nn R 1) ≤ x) := fun q => h1 (ite01.mpr q)
    rw [if_neg h2]
    obtain ⟨i, hi, rfl, e2⟩ := st_of (by omega) h2
    rw [e2]
    refine rn_bind (ri_keeps h hK hNf) (fun d1 hd => ?_)
    obtain ⟨x1, x2⟩ := hd
    refine r_pI hK (i := 242) (c := 12) rfl ?_
    obtain ⟨y1, y2⟩ := ri_unreck x1
    have ym := x2.tr (MFR.wI (i := 242) (k := 10) (v := 0) (by decide) (by decide))
    generalize wI d1 (z + 242) 10 0 = d2 at y1 y2 ym ⊢
    refine r_gP hK 242 12 0 243 rfl (by decide) ?_
    refine rn_eq (m_st hK) ?_
    have ha := ks_a hK 243 0 15642 rfl
    refine rn_eq (q_aT ha (16 + 9 * i + k) (ix_st i k) (by omega) (by decide)) ?_
    refine r_gP hK 242 12 0 243 rfl (by decide) ?_
    refine rn_eq (m_st hK) ?_
    have ev : d2.1 (z + 243) (16 + 9 * i + k) = R (16 + 9 * i + k) := y1.1 _ (by omega)
    rw [ev]
    refine rn_ite (fun h3 => ?_) (fun h3 => ?_)
    · rw [if_pos h3]
      unfold f_X12_turned_58
      refine rn_eq (q_sI ha (16 + 9 * i + k) (ix_st i k) (by omega) (by decide)) ?_
      exact ro_done hK (ri_cell y1 y2).1 (ym.tr (MFR.wI (by decide) (by decide))) rfl
    · rw [if_neg h3]
      unfold f_X12_turned_58
      refine rn_eq (q_sI ha (16 + 9 * i + k) (ix_st i k) (by omega) (by decide)) ?_
      exact ro_done hK (ri_cell y1 y2).1 (ym.tr (MFR.wI (by decide) (by decide))) rfl
  · have h2 : x < 0 ∨ nI (nn R 1) ≤ x := ite01.mp (Decidable.of_not_not h1)
    rw [if_pos h2]
    exact ro_refuses hK h rfl
theorem m_oneWay {x b : Int32} (hNf : 15642 < N) (hK : KS sh z) (h : RI d z R K u) (hN : WN R) : Rn (f_X12_oneWay N sh (z + 242) x b d) (RO z R K u (sp_turn R x 5 (if b = 0 then 0 else 1)) d) := by
  unfold f_X12_oneWay
  refine rn_t (ks_o hK 242 12 rfl) ?_
  exact rn_bind (m_turned (k := 5) (by decide) hNf hK h hN) (fun r hr => rn_some hr)
theorem m_shut {x b : Int32} (hNf : 15642 < N) (hK : KS sh z) (h : RI d z R K u) (hN : WN R) : Rn (f_X12_shut N sh (z + 242) x b d) (RO z R K u (sp_turn R x 4 (if b = 0 then 0 else 1)) d) := by
  unfold f_X12_shut
  refine rn_t (ks_o hK 242 12 rfl) ?_
  exact rn_bind (m_turned (k := 4) (by decide) hNf hK h hN) (fun r hr => rn_some hr)
/-! told() -/
def sp_told (R : Nat → Int32) (x w : Int32) : Int32 × Option (Nat → Int32) := if (x < 0 ∨ nI (nn R 1) ≤ x) ∨ (w < 0 ∨ 8 < w) then (-2, none) else (R (16 + 9 * x.toNatClampNeg + w.toNatClampNeg), none)
theorem lt9 {w : Int32} : w < 9 ↔ ¬ 8 < w := by
  rw [Int32.lt_iff_toInt_lt, Int32.lt_iff_toInt_lt]
  have e1 : (9 : Int32).toInt = 9 := by decide
  have e2 : (8 : Int32).toInt = 8 := by decide
  omega
theorem w_of {w : Int32} (h : ¬ (w < 0 ∨ 8 < w)) : ∃ k, k < 9 ∧ w = nI k ∧ w.toNatClampNeg = k := st_of (n := 9) (by decide) (fun q => h (q.elim Or.inl (fun q => Or.inr (by
  have : ¬ w < 9 := fun r => Int32.not_le.mpr r q
  exact Decidable.of_not_not (fun r => this (lt9.mpr r))))))
theorem m_told {x w : Int32} (hK : KS sh z) (h : RI d z R K u) (hN : WN R) : Rn (f_X12_told N sh (z + 242) x w d) (RO z R K u (sp_told R x w) d) := by
  have n1 := hN.2.1.2
  unfold f_X12_told
  refine rn_t (ks_o hK 242 12 rfl) ?_
  refine rn_eq (ri_isStreet hK h hN) ?_
  unfold sp_told
  refine rn_ite (fun h1 => ?_) (fun h1 => ?_)
  · rw [if_pos (Or.inl (ite01.mp h1))]
    exact ro_refuses hK h rfl
  · have h2 : ¬ (x < 0 ∨ nI (nn R 1) ≤ x) := fun q => h1 (ite01.mpr q)
    refine rn_eq m_in ?_
    refine rn_ite (fun h3 => ?_) (fun h3 => ?_)
    · have h4 : ¬ (w < 0 ∨ 8 < w) := fun q => h3 (ite01.mpr q)
      rw [if_neg (fun q => q.elim h2 h4)]
      obtain ⟨i, hi, rfl, e2⟩ := st_of (by omega) h2
      obtain ⟨k, hk, rfl, e3⟩ := w_of h4
      rw [e2, e3]
      refine r_gP hK 242 12 0 243 rfl (by decide) ?_
      refine rn_eq (m_st hK) ?_
      refine rn_eq (q_aT (ks_a hK 243 0 15642 rfl) (16 + 9 * i + k) (ix_st i k) (by omega) (by decide)) ?_
      rw [h.1 _ (by omega)]
      exact ro_says hK h rfl
    · have h4 : w < 0 ∨ 8 < w := ite01.mp (Decidable.of_not_not h3)
      rw [if_pos (Or.inr h4)]
      exact ro_refuses hK h rfl
/-- a call of the class that keeps the shape -/
def KD (z : Nat) (R K : Nat → Int32) (u : Bool) (c : Nat) (o : Int32 × Option (Nat → Int32)) (s : AS) (r : Int32 × Dt) : Prop := KO z R K u c o s (r.1, (s.1, r.2))
theorem k_told {x w : Int32} (h : CI s z ow R K u y c) (hR : WF R) : Rn (f_X11_told N s.1 z x w s.2) (KD z R K u c (sp_told R x w) s) := by
  have hK := h.1
  have n1 := hR.1.2.1.2
  have ht4 : tck 4 9 = true := by decide
  have hB : BK s.1 s.2 z ow 3 R y.1 := h.2.2.1
  have bad : (x < 0 ∨ nI (nn R 1) ≤ x) ∨ (w < 0 ∨ 8 < w) → Rn (f_X11_told_24 N s.1 z s.2) (KD z R K u c (sp_told R x w) s) := fun hb => by
    unfold sp_told
    rw [if_pos hb]
    unfold f_X11_told_24
    refine rn_bind (k_refuse hK) (fun r hr => rn_some ?_)
    exact ko_lg h hr rfl
  unfold f_X11_told
  refine rn_t (ks_o hK 0 11 rfl) ?_
  refine r_gP hK 0 11 1 3 rfl (by decide) ?_
  refine r_gP hK 3 1 1 4 rfl (by decide) ?_
  refine rn_eq (tb_has (o := 4) (nc := 9) hK ht4 hB.2.1) ?_
  refine rn_ite (fun h1 => bad (Or.inl (ite01.mp h1))) (fun h1 => ?_)
  refine rn_ite (fun h2 => bad (Or.inr (Or.inl h2))) (fun h2 => ?_)
  refine rn_ite (fun h3 => ?_) (fun h3 => bad (Or.inr (Or.inr (Decidable.of_not_not (fun q => h3 (lt9.mpr q))))))
  have h4 : ¬ (x < 0 ∨ nI (nn R 1) ≤ x) := fun q => h1 (ite01.mpr q)
  have h5 : ¬ (w < 0 ∨ 8 < w) := fun q => q.elim h2 (fun q => lt9.mp h3 q)
  unfold sp_told
  rw [if_neg (fun q => q.elim h4 h5)]
  obtain ⟨i, hi, rfl, e2⟩ := st_of (by omega) h4
  obtain ⟨k, hk, rfl, e3⟩ := w_of h5
  rw [e2, e3]
  refine r_gP hK 0 11 1 3 rfl (by decide) ?_
  refine r_gP hK 3 1 1 4 rfl (by decide) ?_
  refine rn_eq (tb_get (o := 4) (nc := 9) hK ht4 hB.2.1 rfl hi rfl hk) ?_
  refine rn_bind (k_answer hK) (fun r hr => rn_some ?_)
  exact ko_lg h hr rfl
end T2
