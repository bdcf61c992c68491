/-! PLOUGHS of the class -/
section PLK
variable {s s' : AS} {sh : Sh} {d d' d0 : Dt} {z : Nat} {ow ow' : Nat → Nat} {R R' K : Nat → Int32} {u : Bool} {y : YL} {c c' N P P' p S : Nat} {q q' : BL} {yy : BL × (Nat → Nat) × Nat × Nat} {V : Nat → Nat → Int32} {L : Nat → Nat}
theorem wdn_cg (h : WDn R) (hN : WN R') (e : ∀ j, j ≠ 3 → j < 9426 ∨ 9582 ≤ j → R' j = R j) : WDn R' := by
  have n2 := h.1.2.2.1.2
  have en : ∀ j, j ≠ 3 → j < 9426 ∨ 9582 ≤ j → nn R' j = nn R j := fun j h1 h2 => by unfold nn; rw [e j h1 h2]
  refine ⟨hN, fun g hg => ?_, fun i hi => ?_⟩
  · rw [en 2 (by decide) (by omega)] at hg
    rw [e _ (by omega) (by omega), en _ (by omega) (by omega)]
    exact h.2.1 g hg
  · rw [en 4 (by decide) (by omega)] at hi
    rw [en 1 (by decide) (by omega), en _ (by omega) (by omega)]
    exact h.2.2 i hi
theorem pb_cg2 (h : PB sh d z ow R) (h3 : nn R' 3 = nn R 3) (hk : ∀ p x, x = 0 ∨ x = 3 ∨ x = 4 → R' (9426 + 13 * p + x) = R (9426 + 13 * p + x)) : PB sh d z ow R' := fun p hp => by
  rw [h3] at hp
  obtain ⟨a, h1, h2⟩ := h p hp
  have e0 : ∀ p, nn R' (9426 + 13 * p) = nn R (9426 + 13 * p) := fun p => by unfold nn; exact congrArg _ (hk p 0 (Or.inl rfl))
  have e3 : nn R' (9426 + 13 * p + 3) = nn R (9426 + 13 * p + 3) := by unfold nn; rw [hk p 3 (Or.inr (Or.inl rfl))]
  have e4 : nn R' (9426 + 13 * p + 4) = nn R (9426 + 13 * p + 4) := by unfold nn; rw [hk p 4 (Or.inr (Or.inr rfl))]
  refine ⟨a, h1, ?_⟩
  rw [e3, e4, e0, e0, e0]
  exact h2
theorem lp_vP {c i : Nat} (hc : c < 9) : vP (lpR R p) c i = if i = p ∧ c ≠ 5 ∧ c ≠ 6 then 0 else vP R c i := by
  by_cases hi : i = p
  · subst hi
    have z5 : ∀ x, 5 ≤ x → x < 13 → lpR R i (9426 + 13 * i + x) = 0 := fun x h1 h2 => zr_in (by omega)
    have zz : ∀ x, x < 5 → lpR R i (9426 + 13 * i + x) = R (9426 + 13 * i + x) := fun x h => lpR_n (by omega)
    have hc9 : c = 0 ∨ c = 1 ∨ c = 2 ∨ c = 3 ∨ c = 4 ∨ c = 5 ∨ c = 6 ∨ c = 7 ∨ c = 8 := by omega
    rcases hc9 with rfl | rfl | rfl | rfl | rfl | rfl | rfl | rfl | rfl
    · exact (z5 6 (by omega) (by omega)).trans (if_pos ⟨rfl, by decide, by decide⟩).symm
    · exact (z5 7 (by omega) (by omega)).trans (if_pos ⟨rfl, by decide, by decide⟩).symm
    · exact (z5 8 (by omega) (by omega)).trans (if_pos ⟨rfl, by decide, by decide⟩).symm
    · exact (z5 9 (by omega) (by omega)).trans (if_pos ⟨rfl, by decide, by decide⟩).symm
    · exact (z5 10 (by omega) (by omega)).trans (if_pos ⟨rfl, by decide, by decide⟩).symm
    · exact (zz 1 (by omega)).trans (if_neg (fun q => q.2.1 rfl)).symm
    · rw [if_neg (fun q => q.2.2 rfl)]
      show (if lpR R i (9426 + 13 * i + 2) = 1 then -1 else lpR R i (9426 + 13 * i + 0)) = (if R (9426 + 13 * i + 2) = 1 then -1 else R (9426 + 13 * i + 0))
      rw [zz 2 (by omega), zz 0 (by omega)]
    · exact (z5 11 (by omega) (by omega)).trans (if_pos ⟨rfl, by decide, by decide⟩).symm
    · exact (z5 12 (by omega) (by omega)).trans (if_pos ⟨rfl, by decide, by decide⟩).symm
  · rw [if_neg (fun q => hi q.1)]
    have e : ∀ x, x < 13 → lpR R p (9426 + 13 * i + x) = R (9426 + 13 * i + x) := fun x hx => lpR_n (by omega)
    unfold vP
    simp only [e 6 (by omega), e 7 (by omega), e 8 (by omega), e 9 (by omega), e 10 (by omega), e 1 (by omega), e 2 (by omega), show lpR R p (9426 + 13 * i) = R (9426 + 13 * i) from e 0 (by omega), e 11 (by omega), e 12 (by omega)]
theorem lv_lp {j : Nat} (h : j ≠ 9426 + 13 * p + 2) : lvR R p j = lpR R p j := by
  unfold lvR lpR zrF
  rw [va_up_n h]
theorem lv_vP {c i : Nat} : vP (lvR R p) c i = if c = 6 ∧ i = p then -1 else vP (lpR R p) c i := by
  by_cases h : c = 6 ∧ i = p
  · obtain ⟨rfl, rfl⟩ := h
    rw [if_pos ⟨rfl, rfl⟩]
    show (if lvR R i (9426 + 13 * i + 2) = 1 then -1 else lvR R i (9426 + 13 * i)) = -1
    rw [lvR_2]
    exact if_pos rfl
  · rw [if_neg h]
    unfold vP
    simp only [lv_lp (p := p) (R := R) (show 9426 + 13 * i + 6 ≠ 9426 + 13 * p + 2 by omega), lv_lp (p := p) (R := R) (show 9426 + 13 * i + 7 ≠ 9426 + 13 * p + 2 by omega), lv_lp (p := p) (R := R) (show 9426 + 13 * i + 8 ≠ 9426 + 13 * p + 2 by omega), lv_lp (p := p) (R := R) (show 9426 + 13 * i + 9 ≠ 9426 + 13 * p + 2 by omega), lv_lp (p := p) (R := R) (show 9426 + 13 * i + 10 ≠ 9426 + 13 * p + 2 by omega), lv_lp (p := p) (R := R) (show 9426 + 13 * i + 1 ≠ 9426 + 13 * p + 2 by omega), lv_lp (p := p) (R := R) (show 9426 + 13 * i ≠ 9426 + 13 * p + 2 by omega), lv_lp (p := p) (R := R) (show 9426 + 13 * i + 11 ≠ 9426 + 13 * p + 2 by omega), lv_lp (p := p) (R := R) (show 9426 + 13 * i + 12 ≠ 9426 + 13 * p + 2 by omega)]
    by_cases h6 : c = 6
    · have hi : i ≠ p := fun e => h ⟨h6, e⟩
      rw [lv_lp (p := p) (R := R) (show 9426 + 13 * i + 2 ≠ 9426 + 13 * p + 2 by omega)]
    · simp only [if_neg h6]
theorem drop_loop (hK : KS sh z) (hw : OWS ow z) (hp : p < S) : ∀ (m k fu : Nat) (d : Dt), k + m = 9 → m < fu → TB sh d z ow 20 9 S (fun c i => if i = p ∧ c < k ∧ c ≠ 5 ∧ c ≠ 6 then 0 else V c i) L → FD (IX z ow 20 21) d0 d → Rn (f_X1_dropPart_2 N sh fu (z + 3) (nI p) (nI k) d) (fun d' => FD (IX z ow 20 21) d0 d' ∧ TB sh d' z ow 20 9 S (fun c i => if i = p ∧ c ≠ 5 ∧ c ≠ 6 then 0 else V c i) L)
  | 0, k, fu, d, hk, hf, hT, hF => by
    obtain ⟨fu, rfl⟩ : ∃ q, fu = q + 1 := ⟨fu - 1, by omega⟩
    show Rn (g_X1_dropPart_2 N sh (f_X1_dropPart_2 N sh fu) (z + 3) (nI p) (nI k) d) _
    unfold g_X1_dropPart_2 f_X1_dropPart_35
    have ek : k = 9 := by omega
    subst ek
    refine rn_t (by decide) (rn_some ⟨hF, tb_congr hT (fun c i hc hi => ?_)⟩)
    by_cases h : i = p ∧ c ≠ 5 ∧ c ≠ 6
    · rw [if_pos h, if_pos ⟨h.1, hc, h.2⟩]
    · rw [if_neg h, if_neg (fun q => h ⟨q.1, q.2.2⟩)]
  | m + 1, k, fu, d, hk, hf, hT, hF => by
    obtain ⟨fu, rfl⟩ : ∃ q, fu = q + 1 := ⟨fu - 1, by omega⟩
    have ih := drop_loop hK hw hp m (k + 1) fu
    show Rn (g_X1_dropPart_2 N sh (f_X1_dropPart_2 N sh fu) (z + 3) (nI p) (nI k) d) _
    unfold g_X1_dropPart_2 f_X1_dropPart_29
    refine rn_f (nI_ge (a := k) (b := 9) (by omega) (by decide)) ?_
    rw [nI_1]
    have skip : k = 5 ∨ k = 6 → Rn (f_X1_dropPart_2 N sh fu (z + 3) (nI p) (nI (k + 1)) d) (fun d' => FD (IX z ow 20 21) d0 d' ∧ TB sh d' z ow 20 9 S (fun c i => if i = p ∧ c ≠ 5 ∧ c ≠ 6 then 0 else V c i) L) := fun hs => by
      refine ih d (by omega) (by omega) (tb_congr hT (fun c i hc hi => ?_)) hF
      by_cases h : i = p ∧ c < k ∧ c ≠ 5 ∧ c ≠ 6
      · rw [if_pos h, if_pos ⟨h.1, by omega, h.2.2⟩]
      · rw [if_neg h, if_neg (fun q => h ⟨q.1, by omega, q.2.2⟩)]
    refine rn_ite (fun h5 => skip (Or.inl (nI_inj (b := 5) h5 (by omega) (by decide)))) (fun h5 => ?_)
    refine rn_ite (fun h6 => skip (Or.inr (nI_inj (b := 6) h6 (by omega) (by decide)))) (fun h6 => ?_)
    have h5 : k ≠ 5 := fun e => h5 (by rw [e]; rfl)
    have h6 : k ≠ 6 := fun e => h6 (by rw [e]; rfl)
    refine r_gP hK 3 1 3 20 rfl (by decide) ?_
    refine rn_bind (tb_put (o := 20) (nc := 9) (c := k) hK hw (by decide) hT rfl hp rfl (by omega)) (fun d1 hd => ?_)
    refine ih d1 (by omega) (by omega) (tb_congr hd.1 (fun c i hc hi => ?_)) (hF.tr (hd.2.mono (fun a ha => tx_ix (nc := 9) (by decide) hw ha)))
    by_cases h : c = k ∧ i = p
    · rw [if_pos h, if_pos ⟨h.2, by omega, by omega, by omega⟩]
    · rw [if_neg h]
      by_cases h2 : i = p ∧ c < k ∧ c ≠ 5 ∧ c ≠ 6
      · rw [if_pos h2, if_pos ⟨h2.1, by omega, h2.2.2⟩]
      · rw [if_neg h2, if_neg (fun q => h2 ⟨q.1, by
          have : c ≠ k := fun e => h ⟨e, q.1⟩
          omega, q.2.2⟩)]
theorem k_dropPart (hN1 : 100 ≤ N) (hR : WDn R) (hK : KS sh z) (hw : OWS ow z) (h : BK sh d z ow 3 R q) (hp : p < nn R 3) : Rn (f_X1_dropPart N sh (z + 3) (nI p) d) (fun d' => FD (IX z ow 20 21) d d' ∧ BK sh d' z ow 3 (lpR R p) q) := by
  have n3 := hR.1.2.2.2.1.2
  unfold f_X1_dropPart
  refine rn_t (ks_o hK 3 1 rfl) ?_
  have h0 : TB sh d z ow 20 9 (nn R 3) (fun c i => if i = p ∧ c < 0 ∧ c ≠ 5 ∧ c ≠ 6 then 0 else vP R c i) q.2.2.1 := tb_congr h.2.2.2.1 (fun c i _ _ => if_neg (fun q => absurd q.2.1 (Nat.not_lt_zero c)))
  refine rn_mono (drop_loop (d0 := d) hK hw hp 9 0 N d (by omega) (by omega) h0 FD.rf) (fun d' hd => ⟨hd.1, ?_⟩)
  have e3 : nn (lpR R p) 3 = nn R 3 := by unfold nn; rw [lpR_n (by omega)]
  refine bk_P (s := (sh, d)) (s' := (sh, d')) (L' := q.2.2.1) hR (Or.inl rfl) hK hw h hd.1.es ?_ h.2.2.2.2.2.2.2.2.2.1 (fun k _ hk => lpR_n (by omega))
  rw [e3]
  exact tb_congr hd.2 (fun c i hc hi => lp_vP hc)
theorem k_sendOut (hN1 : 100 ≤ N) (hR : WDn R) (hK : KS sh z) (hw : OWS ow z) (h : BK sh d z ow 3 R q) (hp : p < nn R 3) : Rn (f_X1_sendOut N sh (z + 3) (nI p) d) (fun d' => FD (IX z ow 20 21) d d' ∧ BK sh d' z ow 3 (lvR R p) q) := by
  have n3 := hR.1.2.2.2.1.2
  have e3 : nn (lpR R p) 3 = nn R 3 := by unfold nn; rw [lpR_n (by omega)]
  unfold f_X1_sendOut
  refine rn_t (ks_o hK 3 1 rfl) ?_
  refine rn_bind (k_dropPart hN1 hR hK hw h hp) (fun d1 hd => ?_)
  refine r_gP hK 3 1 3 20 rfl (by decide) ?_
  refine rn_bind (tb_put (o := 20) (nc := 9) (c := 6) hK hw (by decide) hd.2.2.2.2.1 rfl (by rw [e3]; exact hp) rfl (by decide)) (fun d2 hd2 => rn_some ?_)
  have f2 : FD (IX z ow 20 21) d1 d2 := hd2.2.mono (fun a ha => tx_ix (nc := 9) (by decide) hw ha)
  refine ⟨hd.1.tr f2, ?_⟩
  have hR1 : WDn (lpR R p) := wdn_cg hR (zr_wn hR.1 (by omega) 8) (fun j _ hj => lpR_n (by omega))
  refine bk_P (s := (sh, d1)) (s' := (sh, d2)) (L' := q.2.2.1) hR1 (Or.inl rfl) hK hw hd.2 f2.es ?_ h.2.2.2.2.2.2.2.2.2.1 (fun k _ hk => lv_lp (by omega))
  have e4 : nn (lvR R p) 3 = nn (lpR R p) 3 := by unfold nn; rw [lv_lp (by omega)]
  rw [e4]
  exact tb_congr hd2.1 (fun c i hc hi => lv_vP)
theorem lvR_pb (h : PB sh d z ow R) : PB sh d z ow (lvR R p) := pb_cg2 h lvR_3 (fun p' x hx => by
  by_cases e : p' = p
  · subst e
    exact lvR_k (by omega) (by omega)
  · exact lvR_n (by omega))
theorem k_out {x : Int32} (hNf : 300 ≤ N) (h : CI s z ow R K u y c) (hR : WF R) (hKF : WF K) : Rn (f_X11_out N z x s) (KO z R K u c (sp_out R x) s) := by
  have hK := h.1
  have hN := hR.1
  have n3 := hN.2.2.2.1.2
  have hB : BK s.1 s.2 z ow 3 R y.1 := h.2.2.1
  unfold f_X11_out
  refine rn_t (ks_o hK 0 11 rfl) ?_
  refine r_gP hK 0 11 1 3 rfl (by decide) ?_
  refine r_gP hK 3 1 3 20 rfl (by decide) ?_
  refine rn_eq (tb_has (o := 20) (nc := 9) hK (by decide) hB.2.2.2.1) ?_
  by_cases hb : x < 0 ∨ nI (nn R 3) ≤ x
  · rw [show sp_out R x = _ from if_pos hb]
    refine rn_f (fun q => q (ite01.mpr hb)) ?_
    refine rn_bind (k_refuse hK) (fun r hr => rn_some ?_)
    exact ko_lg h hr rfl
  rw [show sp_out R x = _ from if_neg hb]
  refine rn_t (fun q => hb (ite01.mp q)) ?_
  obtain ⟨p, hp, rfl, e2⟩ := st_of (by omega) hb
  rw [e2]
  refine r_gP hK 0 11 1 3 rfl (by decide) ?_
  refine rn_eq (k_isOut (Or.inl rfl) hR hK hB.2.2.2.1 hp) ?_
  refine rn_bind (ci_change (by omega) h hR.1 hR.2.1 hKF.1) (fun s1 hs => ?_)
  obtain ⟨f1, g1, g2, g3, ow1, y1, -, c1⟩ := hs
  have hK1 := c1.1
  unfold f_X11_out_34 f_X11_out_52
  refine r_gP hK1 0 11 1 3 rfl (by decide) ?_
  refine rn_bind (k_sendOut (by omega) (wdn_of hR) hK1 c1.2.1 c1.2.2.1 hp) (fun d1 hd => ?_)
  have qn := ci_new c1 g1 g2 g3 (hd.1.mono (fun a ha => ix_mono ha (by omega) (by omega))) hd.2 (lvR_pb c1.2.2.2.2.2.1)
  by_cases h1 : R (9426 + 13 * p + 2) = 1
  · rw [if_pos h1, if_pos h1]
    refine rn_f (by decide) ?_
    refine rn_bind (k_answer hK1) (fun r hr => rn_some ?_)
    have q3 := ci_lg qn.1 hr.2
    exact ⟨hr.1, (f1.tr qn.2).tr q3.2, ow1, _, q3.1⟩
  · rw [if_neg h1, if_neg h1]
    refine rn_t rfl ?_
    refine rn_bind (k_answer hK1) (fun r hr => rn_some ?_)
    have q3 := ci_lg qn.1 hr.2
    exact ⟨hr.1, (f1.tr qn.2).tr q3.2, ow1, _, q3.1⟩
theorem k_salt {x t : Int32} (hNf : 300 ≤ N) (h : CI s z ow R K u y c) (hR : WF R) (hKF : WF K) : Rn (f_X11_salt N z x t s) (KO z R K u c (sp_salt R x t) s) := by
  have hK := h.1
  have hN := hR.1
  have n3 := hN.2.2.2.1.2
  have n1 := hN.2.1.2
  have hB : BK s.1 s.2 z ow 3 R y.1 := h.2.2.1
  have bad : (x < 0 ∨ nI (nn R 3) ≤ x) ∨ (t < 0 ∨ nI (nn R 1) ≤ t) → Rn (f_X11_salt_28 N z s) (KO z R K u c (sp_salt R x t) s) := fun hb => by
    rw [show sp_salt R x t = _ from if_pos hb]
    unfold f_X11_salt_28
    refine rn_bind (k_refuse hK) (fun r hr => rn_some ?_)
    exact ko_lg h hr rfl
  unfold f_X11_salt
  refine rn_t (ks_o hK 0 11 rfl) ?_
  refine r_gP hK 0 11 1 3 rfl (by decide) ?_
  refine r_gP hK 3 1 3 20 rfl (by decide) ?_
  refine rn_eq (tb_has (o := 20) (nc := 9) hK (by decide) hB.2.2.2.1) ?_
  refine rn_ite (fun h1 => bad (Or.inl (ite01.mp h1))) (fun h1 => ?_)
  refine r_gP hK 0 11 1 3 rfl (by decide) ?_
  refine r_gP hK 3 1 1 4 rfl (by decide) ?_
  refine rn_eq (tb_has (o := 4) (nc := 9) hK (by decide) hB.2.1) ?_
  refine rn_ite (fun h2 => ?_) (fun h2 => bad (Or.inr (ite01.mp (Decidable.of_not_not h2))))
  have h1 : ¬ (x < 0 ∨ nI (nn R 3) ≤ x) := fun q => h1 (ite01.mpr q)
  have h2 : ¬ (t < 0 ∨ nI (nn R 1) ≤ t) := fun q => h2 (ite01.mpr q)
  rw [show sp_salt R x t = _ from if_neg (fun q => q.elim h1 h2)]
  obtain ⟨p, hp, rfl, e1⟩ := st_of (by omega) h1
  obtain ⟨i, hi, rfl, e2⟩ := st_of (by omega) h2
  rw [e1, e2]
  refine r_gP hK 0 11 1 3 rfl (by decide) ?_
  refine rn_eq (k_isOut (Or.inl rfl) hR hK hB.2.2.2.1 hp) ?_
  by_cases h3 : R (9426 + 13 * p + 2) = 1
  · rw [if_pos h3, if_pos h3]
    refine rn_f (by decide) ?_
    refine rn_bind (k_refuse hK) (fun r hr => rn_some ?_)
    exact ko_lg h hr rfl
  rw [if_neg h3, if_neg h3]
  refine rn_t rfl ?_
  obtain ⟨a, a1, a2, a3, -⟩ := k_body hK h.2.2.2.2.2.1 hp hN
  refine r_gP hK 0 11 6 235 rfl (by decide) ?_
  refine rn_eq a1 ?_
  refine rn_eq a2 ?_
  have w := (hR.2.2.2.2.1 p hp).1
  by_cases h4 : nn R (9426 + 13 * p) = 2
  · rw [if_pos h4, if_pos (show R (9426 + 13 * p) = 2 by rw [w.1, h4]; rfl)]
    refine rn_t (by decide) ?_
    refine rn_bind (ci_change (by omega) h hR.1 hR.2.1 hKF.1) (fun s1 hs => ?_)
    obtain ⟨f1, g1, g2, g3, ow1, y1, -, c1⟩ := hs
    have hK1 := c1.1
    unfold f_X11_salt_76
    refine r_gP hK1 0 11 1 3 rfl (by decide) ?_
    refine rn_bind (k_lessDrift hK1 c1.2.1 hN c1.2.2.1 hi) (fun d1 hd => ?_)
    refine r_gP hK1 0 11 1 3 rfl (by decide) ?_
    refine r_gP hK1 3 1 1 4 rfl (by decide) ?_
    refine rn_eq (tb_get (o := 4) (nc := 9) (c := 0) hK1 (by decide) hd.2.2.1 rfl (by rw [nn_up (by omega)]; exact hi) rfl (by decide)) ?_
    have ev : vS (va_up R (16 + 9 * i + 0) (thin (R (16 + 9 * i + 0)) 50)) 0 i = thin (R (16 + 9 * i + 0)) 50 := va_up_s
    rw [ev]
    have qn := ci_new c1 g1 g2 g3 (hd.1.mono (fun a ha => ix_mono ha (by omega) (by omega))) hd.2 (pb_congr c1.2.2.2.2.2.1 (va_up_n (by omega)) (fun j hj => va_up_n (by omega)))
    refine rn_bind (k_answer hK1) (fun r hr => rn_some ?_)
    have q3 := ci_lg qn.1 hr.2
    exact ⟨hr.1, (f1.tr qn.2).tr q3.2, ow1, _, q3.1⟩
  · rw [if_neg h4, if_neg (show ¬ R (9426 + 13 * p) = 2 from fun e => h4 (nI_inj (b := 2) (w.1.symm.trans e) (by omega) (by decide)))]
    refine rn_f (fun q => q rfl) ?_
    refine rn_bind (k_refuse hK) (fun r hr => rn_some ?_)
    exact ko_lg h hr rfl
end PLK
