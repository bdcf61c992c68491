section TK2
variable {s s' : AS} {sh : Sh} {d d0 d' : Dt} {z : Nat} {ow ow' : Nat → Nat} {R K : Nat → Int32} {u : Bool} {y : YL} {N S i j k m cc a b : Nat}
/-- THE WAYS to all ODD CROSSINGS are measured -/
def GO (d : Dt) (z : Nat) (R : Nat → Int32) : Prop := ∀ b, inO R b → ∀ a, a < 60 → dOK R 1000000000 a b (d.1 (z + (141 + b)) a)
theorem cap_c {x : Int32} (h : dOK R 1000000000 a b x) : x = nI (min (dd R a b) 1000000000) := by
  rcases h with ⟨n, r1, r2, r3⟩ | ⟨r1, r3⟩
  · rw [r3, dd_eq r1, Nat.min_eq_left (by omega)]
  · rw [r3, dd_no r1]
    rfl
/-- gaps alone are touched -/
def GPF (z : Nat) (d d' : Dt) : Prop := d'.2 = d.2 ∧ ∀ a, a < z + 204 ∨ z + 217 < a → d'.1 a = d.1 a
theorem GPF.rf : GPF z d d := ⟨rfl, fun _ _ => rfl⟩
theorem gap_in {Q : AS → Prop} {k19 : Nat → Int32 → AS → Option AS} (hK : KS s.1 z) (hN : WN R) (hW : WS R) (hm : (oddl R).length ≤ 14) (hS : SPN d0 z) (h3 : ∀ c, c < 14 → d0.2.2.2 (z + 203) c = some (z + (204 + c))) (hc : d0.1 (z + 201) 3 = nI (oddl R).length) (hO : OL d0 (z + 202) (oddl R)) (hG : GO d0 z R) (hi : i < (oddl R).length)
    (hk : ∀ d', GPF z d0 d' → (∀ i' j', i' < i + 1 → i' < j' → j' < (oddl R).length → d'.1 (z + (204 + i')) j' = nI (min (gO R i' j') 1000000000)) → Rn (k19 (z + 201) (nI (i + 1)) (s.1, d')) Q) : ∀ (p j fu : Nat) (d : Dt), j + p = (oddl R).length → p < fu → i < j → GPF z d0 d → (∀ i' j', i' < i ∨ (i' = i ∧ j' < j) → i' < j' → j' < (oddl R).length → d.1 (z + (204 + i')) j' = nI (min (gO R i' j') 1000000000)) → Rn (f_X4_fillTable_31 N k19 fu (z + 201) (nI i) (nI j) (s.1, d)) Q
  | 0, j, fu, d, hj, hf, hij, hM, hv => by
    obtain ⟨fu, rfl⟩ : ∃ q, fu = q + 1 := ⟨fu - 1, by omega⟩
    show Rn (g_X4_fillTable_31 N k19 (f_X4_fillTable_31 N k19 fu) (z + 201) (nI i) (nI j) (s.1, d)) _
    unfold g_X4_fillTable_31 f_X4_fillTable_72
    refine r_gI hK (i := 201) (c := 4) rfl ?_
    rw [hM.2 (z + 201) (by omega), hc, nI_1]
    refine rn_t ((nI_leI (by omega) (by omega)).mpr (by omega)) ?_
    exact hk d hM (fun i' j' h1 h2 h3 => hv i' j' (by omega) h2 h3)
  | p + 1, j, fu, d, hj, hf, hij, hM, hv => by
    obtain ⟨fu, rfl⟩ : ∃ q, fu = q + 1 := ⟨fu - 1, by omega⟩
    have ih := gap_in hK hN hW hm hS h3 hc hO hG hi hk p (j + 1) fu
    show Rn (g_X4_fillTable_31 N k19 (f_X4_fillTable_31 N k19 fu) (z + 201) (nI i) (nI j) (s.1, d)) _
    have n0 := hN.1.2
    have hjm : j < (oddl R).length := by omega
    have srt := oddl_sort hW hN
    have l1 := srt.1 i hi
    have l2 := srt.1 j hjm
    have hSd : SPN d z := by
      unfold SPN
      rw [hM.1]
      exact hS
    unfold g_X4_fillTable_31
    refine r_gI hK (i := 201) (c := 4) rfl ?_
    rw [hM.2 (z + 201) (by omega), hc]
    refine rn_f (nI_ge hjm (by omega)) ?_
    refine r_gP hK 201 4 5 203 rfl (by decide) ?_
    refine rn_eq (q_aQ (ks_a hK 203 5 14 rfl) i (z + (204 + i)) rfl (by omega) (by decide) (by rw [hM.1]; exact h3 i (by omega))) ?_
    refine r_gP hK 201 4 1 77 rfl (by decide) ?_
    refine r_gP hK 201 4 2 202 rfl (by decide) ?_
    refine rn_eq (q_aT (ks_a hK 202 0 60 rfl) i rfl (by omega) (by decide)) ?_
    refine r_gP hK 201 4 2 202 rfl (by decide) ?_
    refine rn_eq (q_aT (ks_a hK 202 0 60 rfl) j rfl (by omega) (by decide)) ?_
    rw [hM.2 (z + 202) (by omega), hO i hi, hO j hjm]
    refine rn_eq (k_between hK hSd (by omega) (by omega)) ?_
    have hv9 : d.1 (z + (141 + (oddl R).getD j 0)) ((oddl R).getD i 0) = nI (min (gO R i j) 1000000000) := by
      rw [hM.2 (z + (141 + (oddl R).getD j 0)) (by omega)]
      exact cap_c (hG _ ⟨j, hjm, rfl⟩ _ (by omega))
    rw [hv9]
    refine rn_eq (q_sI (ks_a hK (204 + i) 0 14 (ck_gps (by omega))) j rfl (by omega) (by decide)) ?_
    rw [nI_1]
    refine ih _ (by omega) (by omega) (by omega) ⟨hM.1, fun a ha => by rw [wI_n (by omega)]; exact hM.2 a ha⟩ (fun i' j' h1 h2 h4 => ?_)
    by_cases e : i' = i
    · subst e
      rw [wI_s]
      by_cases e2 : j' = j
      · rw [e2, va_up_s]
      · rw [va_up_n e2]
        exact hv i' j' (by omega) h2 h4
    · rw [wI_n (by omega)]
      exact hv i' j' (by omega) h2 h4
theorem gap_out {Q : AS → Prop} (hN1 : 100 ≤ N) (hK : KS s.1 z) (hN : WN R) (hW : WS R) (hm : (oddl R).length ≤ 14) (hS : SPN d0 z) (h3 : ∀ c, c < 14 → d0.2.2.2 (z + 203) c = some (z + (204 + c))) (hc : d0.1 (z + 201) 3 = nI (oddl R).length) (hO : OL d0 (z + 202) (oddl R)) (hG : GO d0 z R)
    (hk : ∀ d', GPF z d0 d' → (∀ i' j', i' < j' → j' < (oddl R).length → d'.1 (z + (204 + i')) j' = nI (min (gO R i' j') 1000000000)) → Rn (f_X4_fillTable_78 N (z + 201) (s.1, d')) Q) : ∀ (p i fu : Nat) (d : Dt), i + p = (oddl R).length → p < fu → GPF z d0 d → (∀ i' j', i' < i → i' < j' → j' < (oddl R).length → d.1 (z + (204 + i')) j' = nI (min (gO R i' j') 1000000000)) → Rn (f_X4_fillTable_19 N fu (z + 201) (nI i) (s.1, d)) Q
  | 0, i, fu, d, hi, hf, hM, hv => by
    obtain ⟨fu, rfl⟩ : ∃ q, fu = q + 1 := ⟨fu - 1, by omega⟩
    show Rn (g_X4_fillTable_19 N (f_X4_fillTable_19 N fu) (z + 201) (nI i) (s.1, d)) _
    unfold g_X4_fillTable_19
    refine r_gI hK (i := 201) (c := 4) rfl ?_
    rw [hM.2 (z + 201) (by omega), hc]
    refine rn_t ((nI_leI (by omega) (by omega)).mpr (by omega)) ?_
    exact hk d hM (fun i' j' h1 h2 => hv i' j' (by omega) h1 h2)
  | p + 1, i, fu, d, hi, hf, hM, hv => by
    obtain ⟨fu, rfl⟩ : ∃ q, fu = q + 1 := ⟨fu - 1, by omega⟩
    have ih := gap_out hN1 hK hN hW hm hS h3 hc hO hG hk p (i + 1) fu
    show Rn (g_X4_fillTable_19 N (f_X4_fillTable_19 N fu) (z + 201) (nI i) (s.1, d)) _
    unfold g_X4_fillTable_19
    refine r_gI hK (i := 201) (c := 4) rfl ?_
    rw [hM.2 (z + 201) (by omega), hc, nI_1]
    refine rn_f (nI_ge (by omega) (by omega)) ?_
    refine gap_in hK hN hW hm hS h3 hc hO hG (by omega) (fun d' hM' hv' => ih d' (by omega) (by omega) hM' hv') ((oddl R).length - (i + 1)) (i + 1) N d (by omega) (by omega) (by omega) hM (fun i' j' h1 h2 h4 => hv i' j' (by omega) h2 h4)
/-- the pairing is found anew, LEAST's row may be new -/
theorem ci_pr2 {Lt' : Nat} (h : CI s z ow R K u y cc) (he : ES (IX z ow 201 220) s ow s' ow') (hcs : CS s'.1 s'.2 z ow' y.2.2.1 Lt' y.2.2.2.2) (hl : PRl s'.2 z R) (ht : PRt s'.2 z R) (hln : TLN s'.2 z R Lt') (m1 : s'.1.1.2.2 + 2 * y.2.2.2.1 ≤ s.1.1.2.2 + 2 * Lt') (m2 : s'.1.1.2.1 + y.2.2.2.1 ≤ s.1.1.2.1 + Lt') : CI s' z ow' R K u (y.1, y.2.1, y.2.2.1, Lt', y.2.2.2.2) cc ∧ RFR z s s' := by
  obtain ⟨hK, hw, b1, b2, b3, b4, b5, b6, b7, b8, b9, b10, b11⟩ := h
  have r0 := es_row hK hw he (i := 0) (by decide) (by omega)
  refine ⟨⟨KS.es hK he, OWS.es hw hK he, bk_ix b1 (Or.inl rfl) hK hw he (by omega), bk_ix b2 (Or.inr rfl) hK hw he (by omega), hcs, pb_ix b4 hK hw he (by omega) (by omega), pb_ix b5 hK hw he (by omega) (by omega), wy_ix b6 hK hw he (by omega), hl, ht, by rw [r0.1]; exact b9, ?_, ?_, hln⟩, RFR.ix hK hw he (by omega)⟩
  · show s'.1.1.2.2 ≤ 75638 + 2 * (pot y.1 + pot y.2.1 + smN y.2.2.1 4 + Lt' + y.2.2.2.2) + 5 * cc
    omega
  · have b11 := b11.1
    show s'.1.1.2.1 ≤ z + 264 + (pot y.1 + pot y.2.1 + smN y.2.2.1 4 + Lt' + y.2.2.2.2) + cc
    omega
/-- CS over a change of the pairing -/
theorem cs_pr {Lp : Nat → Nat} {Lt Lg Lt' : Nat} {a' : Nat} (h : CS s.1 s.2 z ow Lp Lt Lg) (hK : KS s.1 z) (hw : OWS ow z) (he : ES (IX z ow 201 220) s ow s' ow') (h203 : s'.2.2.2.2 (z + 203) = s.2.2.2.2 (z + 203)) (ht : s'.2.2.2.2 (z + 201) 6 = some a' ∧ ow' a' = 16 * 201 + 1 ∧ isA s'.1 a' 0 ∧ s'.1.2.2.1 a' = Lt' ∧ (∃ e, Lt' = 2 ^ e) ∧ Lt' ≤ 16384) : CS s'.1 s'.2 z ow' Lp Lt' Lg := by
  obtain ⟨⟨h1, h2, h3⟩, ⟨⟨S, V, h4, h5⟩, h6⟩, -, b, g, g1, g2, g3, g4, g5, g6, g7, g8, g9⟩ := h
  have e1 := he.1
  have e2 := he.2.1
  have qb := he.2.2 b g3.2.1
  have Xb : ¬ IX z ow 201 220 b := fun q => by
    unfold IX at q
    rw [onr_r (o := 0) (k := 0) g2 (by omega)] at q
    omega
  have rb := qb.2.2.2.2 Xb
  have r78 := es_row hK hw he (i := 78) (by decide) (by omega)
  have r140 := es_row hK hw he (i := 140) (by decide) (by omega)
  have r0 := es_row hK hw he (i := 0) (by decide) (by omega)
  have l2 := g3.2.1
  exact ⟨⟨fun c hc => by rw [r78.2.2.2]; exact h1 c hc, fun c hc => by rw [r140.2.2.2]; exact h2 c hc, fun c hc => by rw [h203]; exact h3 c hc⟩, ⟨⟨S, V, tb_ix h4 hK hw (by decide) he (by omega), h5⟩, h6⟩, ⟨a', ht⟩, b, g, by rw [r0.2.2.2]; exact g1, by rw [qb.2.2.2.1]; exact g2, ⟨by rw [e1]; exact g3.1, by omega, by rw [qb.1]; exact g3.2.2⟩, by rw [qb.2.1]; exact g4, g5, g6, by rw [r0.1]; exact g7, g8, fun i hi9 => by rw [rb.1]; exact g9 i hi9⟩
end TK2
