/-! undo() -/
def KU (z : Nat) (R K : Nat → Int32) (u : Bool) (c : Nat) (s : AS) (r : Int32 × AS) : Prop := r.1 = (if u then 1 else 0) ∧ RFR z s r.2 ∧ ∃ ow' y', CI r.2 z ow' (if u then K else R) K false y' c
def RU (z : Nat) (R K : Nat → Int32) (u : Bool) (d : Dt) (r : Int32 × Dt) : Prop := r.1 = (if u then 1 else 0) ∧ MFR z d r.2 ∧ RI r.2 z (if u then K else R) K false
section UND
variable {s s' : AS} {sh : Sh} {d d' d0 : Dt} {z : Nat} {ow ow' : Nat → Nat} {R R' K : Nat → Int32} {u : Bool} {y : YL} {c N : Nat} {q q' : BL}
theorem cs_wI {i k : Nat} {v : Int32} {Lp : Nat → Nat} {Lt Lg : Nat} (hw : OWS ow z) (hi : i < 222) (hc : cOl.getD i 1 = 0) (h0 : i ≠ 0 ∨ k ≠ 12) (hK : KS sh z) (h : CS sh d z ow Lp Lt Lg) : CS sh (wI d (z + i) k v) z ow Lp Lt Lg := by
  obtain ⟨k1, ⟨⟨S, V, k4, k5⟩, k6⟩, k7, b, g, b1, b2, b3, b4, b5, b6, b7, b8, b9⟩ := h
  have o := hw i (by omega) hc
  have e : ES (IX z ow i i) (sh, d) ow (sh, wI d (z + i) k v) ow := (fd_ix (by omega) o).es
  refine ⟨k1, ⟨⟨S, V, tb_ix (s := (sh, d)) k4 hK hw (by decide) e (by omega), k5⟩, k6⟩, k7, b, g, b1, b2, b3, b4, b5, b6, ?_, b8, fun j hj => ?_⟩
  · by_cases ei : i = 0
    · subst ei
      show (wI d (z + 0) k v).1 (z + 0) 12 = nI g
      rw [wI_s, va_up_n (by omega)]
      exact b7
    · rw [wI_n (by omega)]
      exact b7
  · rw [wI_n (fun e => by rw [e, o] at b2; omega)]
    exact b9 j hj
theorem k_undo (hNf : 300 ≤ N) (h : CI s z ow R K u y c) (hR : WF R) (hKF : WF K) : Rn (f_X11_undo N z s) (KU z R K u c s) := by
  obtain ⟨hK, hw, b1, b2, b3, b4, b5, b6, b7, b8, b9, b10, b11⟩ := id h
  unfold f_X11_undo
  refine rn_t (ks_o hK 0 11 rfl) ?_
  refine r_gI hK (i := 0) (c := 11) rfl ?_
  rw [b9]
  cases u with
  | false =>
    refine rn_f (fun q => q rfl) ?_
    refine rn_bind (k_answer hK) (fun r hr => rn_some ?_)
    have q3 := ci_lg h hr.2
    exact ⟨hr.1, q3.2, ow, y, q3.1⟩
  | true =>
    refine rn_t (by decide) ?_
    refine r_pI hK (i := 0) (c := 11) rfl ?_
    refine r_gP hK 0 11 1 3 rfl (by decide) ?_
    refine r_gP hK 0 11 2 40 rfl (by decide) ?_
    have o0 := hw 0 (by decide) (by decide)
    have e0 : ES (IX z ow 0 0) s ow (s.1, wI s.2 (z + 0) 13 0) ow := FD.es (sh := s.1) (d := s.2) (fd_ix (by decide) o0)
    have x1 := bk_ix b1 (Or.inl rfl) hK hw e0 (by omega)
    have x2 := bk_ix b2 (Or.inr rfl) hK hw e0 (by omega)
    have x3 := cs_wI (v := 0) hw (i := 0) (k := 13) (by decide) (by decide) (by decide) hK b3
    have x5 := pb_ix b5 hK hw e0 (by omega) (by omega)
    refine rn_bind (bk_become (s := (s.1, wI s.2 (z + 0) 13 0)) (by omega) (Or.inl rfl) (Or.inr rfl) (by omega) hK hw hR.1 hKF.1 hKF.2.1 x1 x2) (fun s1 hs => ?_)
    obtain ⟨ow1, q1, e1, y1, w1, m1⟩ := hs
    have hK1 := KS.es (s := (s.1, wI s.2 (z + 0) 13 0)) hK e1
    have hw1 := OWS.es (s := (s.1, wI s.2 (z + 0) 13 0)) hw hK e1
    have y2 := bk_ix (s := (s.1, wI s.2 (z + 0) 13 0)) x2 (Or.inr rfl) hK hw e1 (by omega)
    have y3 := cs_ix (s := (s.1, wI s.2 (z + 0) 13 0)) x3 hK hw e1 (by omega)
    have y5 := pb_ix (s := (s.1, wI s.2 (z + 0) 13 0)) x5 hK hw e1 (by omega) (by omega)
    have r0 := es_row (s := (s.1, wI s.2 (z + 0) 13 0)) hK hw e1 (i := 0) (by decide) (by omega)
    unfold f_X11_undo_29
    refine rn_eq (k_forget hK1) ?_
    have o77 := hw1 77 (by decide) (by decide)
    have o201 := hw1 201 (by decide) (by decide)
    have d2 : FD (IX z ow1 77 77) s1.2 (wI s1.2 (z + 77) 5 0) := fd_ix (by decide) o77
    have d3 : FD (IX z ow1 201 201) (wI s1.2 (z + 77) 5 0) (wI (wI (wI s1.2 (z + 77) 5 0) (z + 201) 4 0) (z + 201) 7 0) := (fd_ix (by decide) o201).tr (fd_ix (by decide) o201)
    have g2 : ES (IX z ow1 77 77) s1 ow1 (s1.1, wI s1.2 (z + 77) 5 0) ow1 := FD.es (sh := s1.1) (ow := ow1) d2
    have g3 : ES (IX z ow1 201 201) (s1.1, wI s1.2 (z + 77) 5 0) ow1 (s1.1, wI (wI (wI s1.2 (z + 77) 5 0) (z + 201) 4 0) (z + 201) 7 0) ow1 := FD.es (sh := s1.1) (ow := ow1) d3
    have v1 := bk_ix (s := (s1.1, wI s1.2 (z + 77) 5 0)) (bk_ix y1 (Or.inl rfl) hK1 hw1 g2 (by omega)) (Or.inl rfl) hK1 hw1 g3 (by omega)
    have v2 := bk_ix (s := (s1.1, wI s1.2 (z + 77) 5 0)) (bk_ix y2 (Or.inr rfl) hK1 hw1 g2 (by omega)) (Or.inr rfl) hK1 hw1 g3 (by omega)
    have v5 := pb_ix (s := (s1.1, wI s1.2 (z + 77) 5 0)) (pb_ix y5 hK1 hw1 g2 (by omega) (by omega)) hK1 hw1 g3 (by omega) (by omega)
    have v3 := cs_wI (v := 0) hw1 (i := 201) (k := 7) (by decide) (by decide) (by decide) hK1 (cs_wI (v := 0) hw1 (i := 201) (k := 4) (by decide) (by decide) (by decide) hK1 (cs_wI (v := 0) hw1 (i := 77) (k := 5) (by decide) (by decide) (by decide) hK1 y3))
    have c2 : CI (s1.1, wI (wI (wI s1.2 (z + 77) 5 0) (z + 201) 4 0) (z + 201) 7 0) z ow1 K K false (q1, y.2) c := by
      refine ⟨hK1, hw1, v1, v2, v3, v5, v5, Or.inl ?_, Or.inl ?_, Or.inl ?_, ?_, ?_, ?_, tln_0 ?_⟩
      · show (wI (wI (wI s1.2 (z + 77) 5 0) (z + 201) 4 0) (z + 201) 7 0).1 (z + 77) 5 = 0
        rw [wI_n (by omega), wI_n (by omega), wI_s, va_up_s]
      · show (wI (wI (wI s1.2 (z + 77) 5 0) (z + 201) 4 0) (z + 201) 7 0).1 (z + 201) 4 = 0
        rw [wI_s, va_up_n (by decide), wI_s, va_up_s]
      · show (wI (wI (wI s1.2 (z + 77) 5 0) (z + 201) 4 0) (z + 201) 7 0).1 (z + 201) 7 = 0
        rw [wI_s, va_up_s]
      · show (wI (wI (wI s1.2 (z + 77) 5 0) (z + 201) 4 0) (z + 201) 7 0).1 (z + 0) 13 = 0
        rw [wI_n (by omega), wI_n (by omega), wI_n (by omega), r0.1]
        show (wI s.2 (z + 0) 13 0).1 (z + 0) 13 = 0
        rw [wI_s, va_up_s]
      · have w1 : s1.1.1.2.2 + 2 * pot y.1 ≤ s.1.1.2.2 + 2 * pot q1 := w1
        show s1.1.1.2.2 ≤ 75638 + 2 * (pot q1 + pot y.2.1 + smN y.2.2.1 4 + y.2.2.2.1 + y.2.2.2.2) + 5 * c
        omega
      · have b11 := b11.1
        have m1 : s1.1.1.2.1 + pot y.1 ≤ s.1.1.2.1 + pot q1 := m1
        show s1.1.1.2.1 ≤ z + 264 + (pot q1 + pot y.2.1 + smN y.2.2.1 4 + y.2.2.2.1 + y.2.2.2.2) + c
        omega
      · show (wI (wI (wI s1.2 (z + 77) 5 0) (z + 201) 4 0) (z + 201) 7 0).1 (z + 201) 7 = 0
        rw [wI_s, va_up_s]
    refine rn_bind (k_answer hK1) (fun r hr => rn_some ?_)
    have q3 := ci_lg c2 hr.2
    have f1 := (RFR.ix hK hw e0 (by omega)).tr ((RFR.ix (s := (s.1, wI s.2 (z + 0) 13 0)) hK hw e1 (by omega)).tr ((RFR.ix hK1 hw1 g2 (by omega)).tr (RFR.ix (s := (s1.1, wI s1.2 (z + 77) 5 0)) hK1 hw1 g3 (by omega))))
    exact ⟨hr.1, f1.tr q3.2, ow1, _, q3.1⟩
theorem undo_loop {Kr : Nat → Int32} (hK : KS sh z) (hA : AG Kr K) (hs : ∃ g, g ≤ 8000 ∧ d0.1 (z + 242) 8 = nI g) : ∀ (m i fu : Nat) (d : Dt), i + m = 15642 → m < fu → MFR z d0 d → d.1 (z + 244) = Kr → d.1 (z + 242) = d0.1 (z + 242) → (∀ k, k < i → d.1 (z + 243) k = Kr k) → Rn (f_X12_undo_15 N sh fu (z + 242) (nI i) d) (fun r => r.1 = 1 ∧ MFR z d0 r.2 ∧ RI r.2 z K K false)
  | 0, i, fu, d, hi, hf, hM, h4, h2, h3 => by
    obtain ⟨fu, rfl⟩ : ∃ q, fu = q + 1 := ⟨fu - 1, by omega⟩
    show Rn (g_X12_undo_15 N sh (f_X12_undo_15 N sh fu) (z + 242) (nI i) d) _
    unfold g_X12_undo_15 f_X12_undo_40
    have e : i = 15642 := by omega
    subst e
    refine rn_t (by decide) ?_
    refine r_pI hK (i := 242) (c := 12) rfl ?_
    refine r_pI hK (i := 242) (c := 12) rfl ?_
    refine rn_eq (m_says hK) (rn_some ⟨rfl, ?_, ?_⟩)
    · exact hM.tr ((MFR.wI (by decide) (by decide)).tr ((MFR.wI (by decide) (by decide)).tr (MFR.wI (by decide) (by decide))))
    · refine ri_rg ?_ (RG.w242 (Or.inl rfl))
      obtain ⟨g, g1, g2⟩ := hs
      refine ⟨fun k hk => ?_, fun h => (by cases h), ?_, ⟨g, g1, ?_⟩, Or.inl ?_⟩
      · rw [wI_n (by omega), wI_n (by omega), h3 k hk]
        exact hA k hk
      · rw [wI_s, va_up_n (by decide), wI_s, va_up_s]
        rfl
      · rw [wI_s, va_up_n (by decide), wI_s, va_up_n (by decide), h2]
        exact g2
      · rw [wI_s, va_up_s]
  | m + 1, i, fu, d, hi, hf, hM, h4, h2, h3 => by
    obtain ⟨fu, rfl⟩ : ∃ q, fu = q + 1 := ⟨fu - 1, by omega⟩
    have ih := undo_loop hK hA hs m (i + 1) fu
    show Rn (g_X12_undo_15 N sh (f_X12_undo_15 N sh fu) (z + 242) (nI i) d) _
    unfold g_X12_undo_15
    refine rn_f (nI_ge (a := i) (b := 15642) (by omega) (by decide)) ?_
    refine r_gP hK 242 12 0 243 rfl (by decide) ?_
    refine r_gP hK 242 12 1 244 rfl (by decide) ?_
    refine rn_eq (q_aT (ks_a hK 244 0 15642 rfl) i rfl (by omega) (by decide)) ?_
    refine rn_eq (q_sI (ks_a hK 243 0 15642 rfl) i rfl (by omega) (by decide)) ?_
    rw [nI_1]
    refine ih _ (by omega) (by omega) (hM.tr (MFR.wI (by decide) (by decide))) ?_ ?_ (fun k hk => ?_)
    · rw [wI_n (by omega)]
      exact h4
    · rw [wI_n (by omega)]
      exact h2
    · rw [wI_s]
      by_cases e : k = i
      · rw [e, va_up_s, h4]
      · rw [va_up_n e]
        exact h3 k (by omega)
theorem m_undo (hNf : 15642 < N) (hK : KS sh z) (h : RI d z R K u) : Rn (f_X12_undo N sh (z + 242) d) (RU z R K u d) := by
  obtain ⟨h1, h2, h3, h4, h5⟩ := id h
  unfold f_X12_undo
  refine rn_t (ks_o hK 242 12 rfl) ?_
  refine r_gI hK (i := 242) (c := 12) rfl ?_
  rw [h3]
  cases u with
  | false =>
    refine rn_f (fun q => q rfl) ?_
    refine rn_eq (m_says hK) (rn_some ?_)
    exact ⟨rfl, MFR.wI (by decide) (by decide), ri_rg h (RG.w242 (Or.inl rfl))⟩
  | true =>
    refine rn_t (by decide) ?_
    exact undo_loop (d0 := d) hK (h2 rfl) h4 15642 0 N d (by omega) (by omega) MFR.rf rfl rfl (fun k hk => absurd hk (Nat.not_lt_zero k))
end UND
