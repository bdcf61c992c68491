/-! street() -/
section ST
variable {s s' : AS} {sh : Sh} {d d' : Dt} {z : Nat} {ow ow' : Nat → Nat} {R R' K : Nat → Int32} {u : Bool} {y : YL} {c N : Nat} {q q' : BL}
/-- behind ci_change: the books of now hold another R, rows may be new -/
theorem ci_new2 (h : CI s z ow R K true y c) (g1 : s.2.1 (z + 77) 5 = 0) (g2 : s.2.1 (z + 201) 4 = 0) (g3 : s.2.1 (z + 201) 7 = 0) (he : ES (IX z ow 3 39) s ow s' ow') (hb : BK s'.1 s'.2 z ow' 3 R' q') (hp : PB s.1 s.2 z ow R') (m1 : s'.1.1.2.2 + 2 * pot y.1 ≤ s.1.1.2.2 + 2 * pot q') (m2 : s'.1.1.2.1 + pot y.1 ≤ s.1.1.2.1 + pot q') : CI s' z ow' R' K true (q', y.2) c ∧ RFR z s s' := by
  obtain ⟨hK, hw, b1, b2, b3, b4, b5, b6, b7, b8, b9, b10, b11⟩ := h
  have r0 := es_row hK hw he (i := 0) (by decide) (by omega)
  have r77 := es_row hK hw he (i := 77) (by decide) (by omega)
  have r201 := es_row hK hw he (i := 201) (by decide) (by omega)
  refine ⟨⟨KS.es hK he, OWS.es hw hK he, hb, bk_ix b2 (Or.inr rfl) hK hw he (by omega), cs_ix b3 hK hw he (by omega), pb_ix hp hK hw he (by omega) (by omega), pb_ix b5 hK hw he (by omega) (by omega), Or.inl (by rw [r77.1]; exact g1), Or.inl (by rw [r201.1]; exact g2), Or.inl (by rw [r201.1]; exact g3), by rw [r0.1]; exact b9, ?_, ?_, tln_0 (by rw [r201.1]; exact g3)⟩, RFR.ix hK hw he (by omega)⟩
  · show s'.1.1.2.2 ≤ 75638 + 2 * (pot q' + pot y.2.1 + smN y.2.2.1 4 + y.2.2.2.1 + y.2.2.2.2) + 5 * c
    omega
  · have b11 := b11.1
    show s'.1.1.2.1 ≤ z + 264 + (pot q' + pot y.2.1 + smN y.2.2.1 4 + y.2.2.2.1 + y.2.2.2.2) + c
    omega
/-- the books with other STREETS -/
theorem bk_S {b : Nat} {L' : Nat → Nat} (hR : WF R) (hb : bck b) (hK : KS s.1 z) (hw : OWS ow z) (h : BK s.1 s.2 z ow b R q) (he : ES (IX z ow (b + 1) (b + 2)) s ow s' ow') (ht : TB s'.1 s'.2 z ow' (b + 1) 9 (nn R' 1) (vS R') L') (hL : ∀ c, c < 9 → L' c ≤ 300) (e : ∀ k, k ≠ 1 → k < 16 ∨ 1366 ≤ k → R' k = R k) (ee : ∀ t k, t < nn R 1 → k = 7 ∨ k = 8 → R' (16 + 9 * t + k) = R (16 + 9 * t + k)) : BK s'.1 s'.2 z ow' b R' (L', q.2) := by
  obtain ⟨h0, h1, h2, h3, h4, h5, h6, h7⟩ := h
  have hwb := bck_w hb hw
  have hts := bck_t hb
  have hz := hK.2.1
  have en : ∀ k, k ≠ 1 → k < 16 ∨ 1366 ≤ k → nn R' k = nn R k := fun k a1 a2 => by unfold nn; rw [e k a1 a2]
  have r0 : s'.2.1 (z + b) = s.2.1 (z + b) := ((he.2.2 (z + b) (by omega)).2.2.2.2 (nix hwb.1 hwb.2 (by omega))).1
  refine ⟨?_, ht, ?_, ?_, ?_, ?_, ?_, ⟨hL, h7.2⟩⟩
  · rw [r0, e 0 (by omega) (by omega)]
    exact h0
  · rw [en 2 (by omega) (by omega)]
    exact tb_congr (tb_ix h2 hK hw hts.2.1 he (by omega)) (fun c' i' _ _ => e _ (by omega) (by omega))
  · rw [en 3 (by omega) (by omega)]
    refine tb_congr (tb_ix h3 hK hw hts.2.2.1 he (by omega)) (fun c' i' _ _ => ?_)
    unfold vP
    simp only [e (9426 + 13 * i' + 6) (by omega) (by omega), e (9426 + 13 * i' + 7) (by omega) (by omega), e (9426 + 13 * i' + 8) (by omega) (by omega), e (9426 + 13 * i' + 9) (by omega) (by omega), e (9426 + 13 * i' + 10) (by omega) (by omega), e (9426 + 13 * i' + 1) (by omega) (by omega), e (9426 + 13 * i' + 2) (by omega) (by omega), e (9426 + 13 * i') (by omega) (by omega), e (9426 + 13 * i' + 11) (by omega) (by omega), e (9426 + 13 * i' + 12) (by omega) (by omega)]
  · rw [en 4 (by omega) (by omega)]
    refine tb_congr (tb_ix h4 hK hw hts.2.2.2 he (by omega)) (fun c' i' _ hi' => ?_)
    obtain ⟨t, cc, w1, w2, -⟩ := hR.2.2.2.2.2 i' hi'
    have n1 := hR.1.2.1.2
    have ent : nn R (9642 + 3 * i') = t := by
      unfold nn
      rw [w2, nI_clamp (by omega)]
    unfold vD
    rw [en (9642 + 3 * i') (by omega) (by omega), ent, e (9642 + 3 * i') (by omega) (by omega), e (9642 + 3 * i' + 1) (by omega) (by omega), e (9642 + 3 * i' + 2) (by omega) (by omega), ee t 7 w1 (Or.inl rfl), ee t 8 w1 (Or.inr rfl)]
  · obtain ⟨a, z1, z2, z3, z4, z5, z6⟩ := ce_ix h5 hK hwb.1 hwb.2 he (by omega)
    refine ⟨a, z1, z2, z3, z4, z5, fun x hx => ?_⟩
    obtain ⟨g, hh, q1, q2, q3⟩ := hx
    rw [en 2 (by omega) (by omega)] at q1
    rw [en _ (by omega) (by omega)] at q2
    have r := z6 x ⟨g, hh, q1, q2, q3⟩
    refine ⟨r.1, r.2.trans ?_⟩
    unfold vC
    rw [e (5426 + x) (by omega) (by omega), e (1426 + x) (by omega) (by omega)]
  · rw [en 2 (by omega) (by omega)]
    exact h6
def stR (R : Nat → Int32) (a b l o : Int32) : Nat → Int32 := va_up (va_up (va_up (va_up (va_up (va_up (va_up (va_up (va_up (va_up (R) (16 + 9 * nn R 1 + 0) 0) (16 + 9 * nn R 1 + 1) 0) (16 + 9 * nn R 1 + 2) 0) (16 + 9 * nn R 1 + 3) 1) (16 + 9 * nn R 1 + 4) 0) (16 + 9 * nn R 1 + 5) o) (16 + 9 * nn R 1 + 6) l) (16 + 9 * nn R 1 + 7) a) (16 + 9 * nn R 1 + 8) b) 1 (nI (nn R 1 + 1))
theorem stR_1 {a b l o : Int32} : stR R a b l o 1 = nI (nn R 1 + 1) := va_up_s
theorem stR_n {a b l o : Int32} {k : Nat} (h1 : k ≠ 1) (h2 : k < 16 + 9 * nn R 1 ∨ 16 + 9 * nn R 1 + 9 ≤ k) : stR R a b l o k = R k := by
  unfold stR
  rw [va_up_n (by omega), va_up_n (by omega), va_up_n (by omega), va_up_n (by omega), va_up_n (by omega), va_up_n (by omega), va_up_n (by omega), va_up_n (by omega), va_up_n (by omega), va_up_n (by omega)]
theorem stR_0 {a b l o : Int32} : stR R a b l o (16 + 9 * nn R 1 + 0) = 0 := by
  unfold stR
  rw [va_up_n (by omega), va_up_n (by omega), va_up_n (by omega), va_up_n (by omega), va_up_n (by omega), va_up_n (by omega), va_up_n (by omega), va_up_n (by omega), va_up_n (by omega), va_up_s]
theorem stR_99 {a b l o : Int32} : stR R a b l o (16 + 9 * nn R 1 + 1) = 0 := by
  unfold stR
  rw [va_up_n (by omega), va_up_n (by omega), va_up_n (by omega), va_up_n (by omega), va_up_n (by omega), va_up_n (by omega), va_up_n (by omega), va_up_n (by omega), va_up_s]
theorem stR_2 {a b l o : Int32} : stR R a b l o (16 + 9 * nn R 1 + 2) = 0 := by
  unfold stR
  rw [va_up_n (by omega), va_up_n (by omega), va_up_n (by omega), va_up_n (by omega), va_up_n (by omega), va_up_n (by omega), va_up_n (by omega), va_up_s]
theorem stR_3 {a b l o : Int32} : stR R a b l o (16 + 9 * nn R 1 + 3) = 1 := by
  unfold stR
  rw [va_up_n (by omega), va_up_n (by omega), va_up_n (by omega), va_up_n (by omega), va_up_n (by omega), va_up_n (by omega), va_up_s]
theorem stR_4 {a b l o : Int32} : stR R a b l o (16 + 9 * nn R 1 + 4) = 0 := by
  unfold stR
  rw [va_up_n (by omega), va_up_n (by omega), va_up_n (by omega), va_up_n (by omega), va_up_n (by omega), va_up_s]
theorem stR_5 {a b l o : Int32} : stR R a b l o (16 + 9 * nn R 1 + 5) = o := by
  unfold stR
  rw [va_up_n (by omega), va_up_n (by omega), va_up_n (by omega), va_up_n (by omega), va_up_s]
theorem stR_6 {a b l o : Int32} : stR R a b l o (16 + 9 * nn R 1 + 6) = l := by
  unfold stR
  rw [va_up_n (by omega), va_up_n (by omega), va_up_n (by omega), va_up_s]
theorem stR_7 {a b l o : Int32} : stR R a b l o (16 + 9 * nn R 1 + 7) = a := by
  unfold stR
  rw [va_up_n (by omega), va_up_n (by omega), va_up_s]
theorem stR_8 {a b l o : Int32} : stR R a b l o (16 + 9 * nn R 1 + 8) = b := by
  unfold stR
  rw [va_up_n (by omega), va_up_s]
theorem stR_nn {a b l o : Int32} : nn (stR R a b l o) 1 = if nn R 1 + 1 < 2 ^ 31 then nn R 1 + 1 else nn (stR R a b l o) 1 := by
  split
  · unfold nn
    rw [stR_1, nI_clamp (by assumption)]
    rfl
  · rfl
theorem stR_n1 {a b l o : Int32} (hN : WN R) : nn (stR R a b l o) 1 = nn R 1 + 1 := by
  have n1 := hN.2.1.2
  rw [stR_nn, if_pos (by omega)]
def sp_street (R : Nat → Int32) (a b l w : Int32) : Int32 × Option (Nat → Int32) := if ((a < 0 ∨ nI (nn R 0) ≤ a) ∨ (b < 0 ∨ nI (nn R 0) ≤ b)) ∨ a = b ∨ (l < 1 ∨ 10000 < l) then (-2, none) else if nn R 1 = 150 then (-3, none) else (nI (nn R 1), some (stR R a b l (if w = 0 then 0 else 1)))
theorem m_street {a b l w : Int32} (hNf : 15642 < N) (hK : KS sh z) (h : RI d z R K u) (hR : WF R) : Rn (f_X12_street N sh (z + 242) a b l w d) (RO z R K u (sp_street R a b l w) d) := by
  have n1 := hR.1.2.1
  have bad : ((a < 0 ∨ nI (nn R 0) ≤ a) ∨ (b < 0 ∨ nI (nn R 0) ≤ b)) ∨ a = b ∨ (l < 1 ∨ 10000 < l) → Rn (f_X12_street_32 N sh (z + 242) d) (RO z R K u (sp_street R a b l w) d) := fun hb => by
    rw [show sp_street R a b l w = _ from if_pos hb]
    exact ro_refuses hK h rfl
  unfold f_X12_street
  refine rn_t (ks_o hK 242 12 rfl) ?_
  refine rn_eq (ri_isCrossing hK h hR.1) ?_
  refine rn_ite (fun h1 => bad (Or.inl (Or.inl (ite01.mp h1)))) (fun h1 => ?_)
  refine rn_eq (ri_isCrossing hK h hR.1) ?_
  refine rn_ite (fun h2 => bad (Or.inl (Or.inr (ite01.mp h2)))) (fun h2 => ?_)
  refine rn_ite (fun h3 => bad (Or.inr (Or.inl h3))) (fun h3 => ?_)
  refine rn_eq m_in ?_
  refine rn_ite (fun h4 => ?_) (fun h4 => bad (Or.inr (Or.inr (ite01.mp (Decidable.of_not_not h4)))))
  have good : ¬ (((a < 0 ∨ nI (nn R 0) ≤ a) ∨ (b < 0 ∨ nI (nn R 0) ≤ b)) ∨ a = b ∨ (l < 1 ∨ 10000 < l)) := fun q => q.elim (fun q => q.elim (fun q => h1 (ite01.mpr q)) (fun q => h2 (ite01.mpr q))) (fun q => q.elim h3 (fun q => h4 (ite01.mpr q)))
  rw [show sp_street R a b l w = _ from if_neg good]
  refine rdg hK h.1 1 rfl (by decide) ?_
  rw [n1.1]
  refine rn_ite (fun h5 => ?_) (fun h5 => ?_)
  · have h6 : nn R 1 ≠ 150 := fun e => h5 (by rw [e]; rfl)
    rw [if_neg h6]
    refine rn_bind (ri_keeps h hK hNf) (fun d1 hd => ?_)
    obtain ⟨x1, x2⟩ := hd
    refine r_pI hK (i := 242) (c := 12) rfl ?_
    obtain ⟨y0, z0⟩ := ri_unreck x1
    have ha := ks_a hK 243 0 15642 rfl
    refine rdg hK y0.1 1 rfl (by decide) ?_
    rw [n1.1]
    refine rn_eq (m_st hK) ?_
    refine r_gP hK 242 12 0 243 rfl (by decide) ?_
    refine rn_eq (q_sI ha (16 + 9 * nn R 1 + 0) (ix_st (nn R 1) 0) (by omega) (by decide)) ?_
    obtain ⟨y1, z1⟩ := ri_cell (j := 16 + 9 * nn R 1 + 0) (v := 0) y0 z0
    refine r_gP hK 242 12 0 243 rfl (by decide) ?_
    refine rn_eq (q_sI ha (16 + 9 * nn R 1 + 1) (ix_st (nn R 1) 1) (by omega) (by decide)) ?_
    obtain ⟨y2, z2⟩ := ri_cell (j := 16 + 9 * nn R 1 + 1) (v := 0) y1 z1
    refine r_gP hK 242 12 0 243 rfl (by decide) ?_
    refine rn_eq (q_sI ha (16 + 9 * nn R 1 + 2) (ix_st (nn R 1) 2) (by omega) (by decide)) ?_
    obtain ⟨y3, z3⟩ := ri_cell (j := 16 + 9 * nn R 1 + 2) (v := 0) y2 z2
    refine r_gP hK 242 12 0 243 rfl (by decide) ?_
    refine rn_eq (q_sI ha (16 + 9 * nn R 1 + 3) (ix_st (nn R 1) 3) (by omega) (by decide)) ?_
    obtain ⟨y4, z4⟩ := ri_cell (j := 16 + 9 * nn R 1 + 3) (v := 1) y3 z3
    refine r_gP hK 242 12 0 243 rfl (by decide) ?_
    refine rn_eq (q_sI ha (16 + 9 * nn R 1 + 4) (ix_st (nn R 1) 4) (by omega) (by decide)) ?_
    obtain ⟨y5, z5⟩ := ri_cell (j := 16 + 9 * nn R 1 + 4) (v := 0) y4 z4
    refine r_gP hK 242 12 0 243 rfl (by decide) ?_
    have fin : ∀ o : Int32, Rn (f_X12_street_147 N sh (z + 242) a b l ((16 : Int32) + (9 : Int32) * nI (nn R 1)) (z + 243) ((16 : Int32) + (9 : Int32) * nI (nn R 1) + 5) o _) (RO z R K u (nI (nn R 1), some (stR R a b l o)) d) := fun o => by
      unfold f_X12_street_147
      refine rn_eq (q_sI ha (16 + 9 * nn R 1 + 5) (ix_st (nn R 1) 5) (by omega) (by decide)) ?_
      obtain ⟨y6, z6⟩ := ri_cell (j := 16 + 9 * nn R 1 + 5) (v := o) y5 z5
      refine r_gP hK 242 12 0 243 rfl (by decide) ?_
      refine rn_eq (q_sI ha (16 + 9 * nn R 1 + 6) (ix_st (nn R 1) 6) (by omega) (by decide)) ?_
      obtain ⟨y7, z7⟩ := ri_cell (j := 16 + 9 * nn R 1 + 6) (v := l) y6 z6
      refine r_gP hK 242 12 0 243 rfl (by decide) ?_
      refine rn_eq (q_sI ha (16 + 9 * nn R 1 + 7) (ix_st (nn R 1) 7) (by omega) (by decide)) ?_
      obtain ⟨y8, z8⟩ := ri_cell (j := 16 + 9 * nn R 1 + 7) (v := a) y7 z7
      refine r_gP hK 242 12 0 243 rfl (by decide) ?_
      refine rn_eq (q_sI ha (16 + 9 * nn R 1 + 8) (ix_st (nn R 1) 8) (by omega) (by decide)) ?_
      obtain ⟨y9, z9⟩ := ri_cell (j := 16 + 9 * nn R 1 + 8) (v := b) y8 z8
      refine r_gP hK 242 12 0 243 rfl (by decide) ?_
      refine rn_eq (q_aT ha 1 rfl (by decide) (by decide)) ?_
      rw [y9.1 1 (by decide), va_up_n (by omega), va_up_n (by omega), va_up_n (by omega), va_up_n (by omega), va_up_n (by omega), va_up_n (by omega), va_up_n (by omega), va_up_n (by omega), va_up_n (by omega), n1.1, nI_1]
      refine rn_eq (q_sI ha 1 rfl (by decide) (by decide)) ?_
      obtain ⟨y10, z10⟩ := ri_cell (j := 1) (v := nI (nn R 1 + 1)) y9 z9
      refine rdg hK y10.1 1 rfl (by decide) ?_
      rw [va_up_s, nI_pred]
      exact ro_done hK y10 (x2.tr ((MFR.wI (by decide) (by decide)).tr ((MFR.wI (by decide) (by decide)).tr ((MFR.wI (by decide) (by decide)).tr ((MFR.wI (by decide) (by decide)).tr ((MFR.wI (by decide) (by decide)).tr ((MFR.wI (by decide) (by decide)).tr ((MFR.wI (by decide) (by decide)).tr ((MFR.wI (by decide) (by decide)).tr ((MFR.wI (by decide) (by decide)).tr ((MFR.wI (by decide) (by decide)).tr (MFR.wI (by decide) (by decide))))))))))))) rfl
    refine rn_ite (fun h7 => ?_) (fun h7 => ?_)
    · rw [if_pos h7]
      exact fin 0
    · rw [if_neg h7]
      exact fin 1
  · have h6 : nn R 1 = 150 := nI_inj (b := 150) (Decidable.of_not_not h5) (by omega) (by decide)
    rw [if_pos h6]
    exact ro_refuses hK h rfl
end ST
