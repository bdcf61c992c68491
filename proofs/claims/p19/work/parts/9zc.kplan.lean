/-! the planner of the class: begin, addPairs -/
/-- what begin() touches -/
def BGF (z : Nat) (d d' : Dt) : Prop := d'.2 = d.2 ∧ ∀ a, a < z + 221 ∨ (z + 222 < a ∧ a < z + 228) ∨ z + 233 < a → d'.1 a = d.1 a
section KPN
variable {s s' : AS} {sh : Sh} {d d0 d' : Dt} {z : Nat} {ow ow' : Nat → Nat} {R K : Nat → Int32} {u : Bool} {y : YL} {N n m k i j c p q x e v a b S cc lo hi : Nat} {T T' D L Lp Lp' : Nat → Nat} {M : Nat → Prop} {Q : AS → Prop}
theorem BGF.rf : BGF z d d := ⟨rfl, fun _ _ => rfl⟩
theorem BGF.tr {d1 d2 : Dt} (h1 : BGF z d d1) (h2 : BGF z d1 d2) : BGF z d d2 := ⟨h2.1.trans h1.1, fun a q => (h2.2 a q).trans (h1.2 a q)⟩
theorem BGF.w {i k : Nat} {v : Int32} (hi : i = 221 ∨ i = 222 ∨ (228 ≤ i ∧ i ≤ 233)) : BGF z d (wI d (z + i) k v) := ⟨rfl, fun a q => wI_n (by omega)⟩
theorem BGF.row {i : Nat} {f : Nat → Int32} (hi : i = 221 ∨ i = 222 ∨ (228 ≤ i ∧ i ≤ 233)) : BGF z d (va_up d.1 (z + i) f, d.2) := ⟨rfl, fun a q => va_up_n (by omega)⟩
theorem vr_n {d : Dt} {a b : Nat} {f : Nat → Int32} (h : b ≠ a) : ((va_up d.1 a f, d.2) : Dt).1 b = d.1 b := va_up_n h
theorem cO_p2 {i : Nat} (h : 221 ≤ i) (h2 : i ≤ 223 ∨ 228 ≤ i) (h3 : i ≤ 234) : cOl.getD i 1 = 0 := by
  rcases Nat.lt_or_ge i 228 with q | q
  · have e : i = 221 ∨ i = 222 ∨ i = 223 := by omega
    rcases e with rfl | rfl | rfl <;> decide
  · exact cO_pl q h3
theorem BGF.fd (h : BGF z d d') (hw : OWS ow z) : FD (IX z ow 221 234) d d' := fun a ha => by
  have q : ∀ i, 221 ≤ i → (i ≤ 223 ∨ 228 ≤ i) → i ≤ 234 → a ≠ z + i := fun i h1 h2 h3 e => by
    refine ha ?_
    rw [e]
    unfold IX
    rw [onr_s (hw i (by omega) (cO_p2 h1 h2 h3)) (by omega)]
    exact ⟨h1, h3⟩
  refine ⟨h.2 a ?_, by rw [h.1], by rw [h.1], by rw [h.1]⟩
  have e1 := q 221 (by omega) (by omega) (by omega)
  have e2 := q 222 (by omega) (by omega) (by omega)
  have e3 := q 228 (by omega) (by omega) (by omega)
  have e4 := q 229 (by omega) (by omega) (by omega)
  have e5 := q 230 (by omega) (by omega) (by omega)
  have e6 := q 231 (by omega) (by omega) (by omega)
  have e7 := q 232 (by omega) (by omega) (by omega)
  have e8 := q 233 (by omega) (by omega) (by omega)
  omega
/-- the planner's own changes -/
theorem ci_pln (h : CI s z ow R K u y cc) (he : ES (IX z ow 221 234) s ow s' ow') (ht : ∃ S V, TB s'.1 s'.2 z ow' 222 4 S V Lp' ∧ S ≤ 2000) (hL : ∀ c, c < 4 → Lp' c ≤ 4000) (m1 : s'.1.1.2.2 + 2 * smN y.2.2.1 4 ≤ s.1.1.2.2 + 2 * smN Lp' 4) (m2 : s'.1.1.2.1 + smN y.2.2.1 4 ≤ s.1.1.2.1 + smN Lp' 4) : CI s' z ow' R K u (y.1, y.2.1, Lp', y.2.2.2.1, y.2.2.2.2) cc ∧ RFR z s s' := by
  obtain ⟨hK, hw, b1, b2, b3, b4, b5, b6, b7, b8, b9, b10, b11, b12⟩ := h
  have r0 := es_row hK hw he (i := 0) (by decide) (by omega)
  have hcs : CS s'.1 s'.2 z ow' Lp' y.2.2.2.1 y.2.2.2.2 := by
    obtain ⟨⟨h1, h2, h3⟩, -, ⟨a, t1, t2, t3, t4, t5, t6⟩, b, g, g1, g2, g3, g4, g5, g6, g7, g8, g9⟩ := b3
    have e1 := he.1
    have e2 := he.2.1
    have qa := he.2.2 a t3.2.1
    have qb := he.2.2 b g3.2.1
    have Xb : ¬ IX z ow 221 234 b := fun q => by
      unfold IX at q
      rw [onr_r (o := 0) (k := 0) g2 (by omega)] at q
      omega
    have rb := qb.2.2.2.2 Xb
    have r78 := es_row hK hw he (i := 78) (by decide) (by omega)
    have r140 := es_row hK hw he (i := 140) (by decide) (by omega)
    have r203 := es_row hK hw he (i := 203) (by decide) (by omega)
    have r201 := es_row hK hw he (i := 201) (by decide) (by omega)
    have l1 := t3.2.1
    have l2 := g3.2.1
    exact ⟨⟨fun c hc => by rw [r78.2.2.2]; exact h1 c hc, fun c hc => by rw [r140.2.2.2]; exact h2 c hc, fun c hc => by rw [r203.2.2.2]; exact h3 c hc⟩, ⟨ht, hL⟩, ⟨a, by rw [r201.2.2.2]; exact t1, by rw [qa.2.2.2.1]; exact t2, ⟨by rw [e1]; exact t3.1, by omega, by rw [qa.1]; exact t3.2.2⟩, by rw [qa.2.1]; exact t4, t5, t6⟩, b, g, by rw [r0.2.2.2]; exact g1, by rw [qb.2.2.2.1]; exact g2, ⟨by rw [e1]; exact g3.1, by omega, by rw [qb.1]; exact g3.2.2⟩, by rw [qb.2.1]; exact g4, g5, g6, by rw [r0.1]; exact g7, g8, fun i hi9 => by rw [rb.1]; exact g9 i hi9⟩
  refine ⟨⟨KS.es hK he, OWS.es hw hK he, bk_ix b1 (Or.inl rfl) hK hw he (by omega), bk_ix b2 (Or.inr rfl) hK hw he (by omega), hcs, pb_ix b4 hK hw he (by omega) (by omega), pb_ix b5 hK hw he (by omega) (by omega), wy_ix b6 hK hw he (by omega), prl_ix b7 hK hw he (by omega), prt_ix b8 b3 hK hw he (by omega), by rw [r0.1]; exact b9, ?_, ?_, tln_eq b12 (congrFun (es_row hK hw he (i := 201) (by decide) (by omega)).1 7)⟩, RFR.ix hK hw he (by omega)⟩
  · show s'.1.1.2.2 ≤ 75638 + 2 * (pot y.1 + pot y.2.1 + smN Lp' 4 + y.2.2.2.1 + y.2.2.2.2) + 5 * cc
    omega
  · show s'.1.1.2.1 ≤ z + 264 + (pot y.1 + pot y.2.1 + smN Lp' 4 + y.2.2.2.1 + y.2.2.2.2) + cc
    omega
/-- .. while its table is left -/
theorem ci_pf (h : CI s z ow R K u y cc) (hf : PF z s.2 d') : CI (s.1, d') z ow R K u y cc ∧ RFR z s (s.1, d') := by
  have hw := h.2.1
  have he : ES (IX z ow 228 234) s ow (s.1, d') ow := FD.es (sh := s.1) (d := s.2) (hf.fd hw)
  have he2 : ES (IX z ow 221 234) s ow (s.1, d') ow := he.mono (fun a _ q => ix_mono q (by omega) (by omega))
  obtain ⟨⟨S, V, h4, h5⟩, h6⟩ := h.2.2.2.2.1.2.1
  exact ci_pln h he2 ⟨S, V, tb_ix h4 h.1 hw (by decide) he (by omega), h5⟩ h6 (Nat.le_refl _) (Nat.le_refl _)
theorem bg_loop (hK : KS sh z) (hN : WN R) (hW : WS R) (hT : TB sh d0 z ow 4 9 (nn R 1) (vS R) L) (hw : OWS ow z) (h8 : d0.1 (z + 221) 8 = nI (nn R 1)) : ∀ (m i fu : Nat) (d : Dt), i + m = nn R 1 → m < fu → BGF z d0 d → d.1 (z + 221) = d0.1 (z + 221) → d.1 (z + 222) = d0.1 (z + 222) → (∀ s, s < i → d.1 (z + 230) s = nI (eA R s) ∧ d.1 (z + 231) s = nI (eB R s) ∧ d.1 (z + 232) s = nI (T0 R s) ∧ d.1 (z + 233) s = nI (T0 R s)) → Rn (f_X5_begin_59 N sh fu (z + 221) (nI i) d) (fun d' => BGF z d0 d' ∧ d'.1 (z + 221) = d0.1 (z + 221) ∧ d'.1 (z + 222) = d0.1 (z + 222) ∧ ∀ s, s < nn R 1 → d'.1 (z + 230) s = nI (eA R s) ∧ d'.1 (z + 231) s = nI (eB R s) ∧ d'.1 (z + 232) s = nI (T0 R s) ∧ d'.1 (z + 233) s = nI (T0 R s))
  | 0, i, fu, d, hc, hf, hF, h1, h2, hs => by
    obtain ⟨fu, rfl⟩ : ∃ q, fu = q + 1 := ⟨fu - 1, by omega⟩
    have n1 := hN.2.1.2
    show Rn (g_X5_begin_59 N sh (f_X5_begin_59 N sh fu) (z + 221) (nI i) d) _
    unfold g_X5_begin_59 f_X5_begin_137
    refine r_gI hK (i := 221) (c := 5) rfl ?_
    rw [h1, h8]
    refine rn_t (nI_le (by omega) (by omega)) ?_
    have e : i = nn R 1 := by omega
    rw [e] at hs
    exact rn_some ⟨hF, h1, h2, hs⟩
  | m + 1, i, fu, d, hc, hf, hF, h1, h2, hs => by
    obtain ⟨fu, rfl⟩ : ∃ q, fu = q + 1 := ⟨fu - 1, by omega⟩
    have n1 := hN.2.1.2
    have hi : i < nn R 1 := by omega
    obtain ⟨e7, a2, e8, b2, hne⟩ := ws_e hW hN hi
    have tb : ∀ d1, BGF z d0 d1 → TB sh d1 z ow 4 9 (nn R 1) (vS R) L := fun d1 f1 => tb_ix (s := (sh, d0)) (s' := (sh, d1)) hT hK hw (by decide) ((f1.fd hw).es) (by omega)
    show Rn (g_X5_begin_59 N sh (f_X5_begin_59 N sh fu) (z + 221) (nI i) d) _
    unfold g_X5_begin_59
    refine r_gI hK (i := 221) (c := 5) rfl ?_
    rw [h1, h8]
    refine rn_f (nI_ge hi (by omega)) ?_
    refine r_gP hK 221 5 6 230 rfl (by decide) ?_
    refine r_gP hK 221 5 0 3 rfl (by decide) ?_
    refine r_gP hK 3 1 1 4 rfl (by decide) ?_
    refine rn_eq (tb_get (o := 4) (nc := 9) (c := 7) hK (by decide) (tb d hF) rfl hi rfl (by decide)) ?_
    have v7 : vS R 7 i = nI (eA R i) := e7
    rw [v7]
    refine rn_eq (q_sI (ks_a hK 230 0 150 rfl) i rfl (by omega) (by decide)) ?_
    have f1 : BGF z d0 (wI d (z + 230) i (nI (eA R i))) := hF.tr (BGF.w (Or.inr (Or.inr (by decide))))
    refine r_gP hK 221 5 7 231 rfl (by decide) ?_
    refine r_gP hK 221 5 0 3 rfl (by decide) ?_
    refine r_gP hK 3 1 1 4 rfl (by decide) ?_
    refine rn_eq (tb_get (o := 4) (nc := 9) (c := 8) hK (by decide) (tb _ f1) rfl hi rfl (by decide)) ?_
    have v8 : vS R 8 i = nI (eB R i) := e8
    rw [v8]
    refine rn_eq (q_sI (ks_a hK 231 0 150 rfl) i rfl (by omega) (by decide)) ?_
    have f2 : BGF z d0 (wI (wI d (z + 230) i (nI (eA R i))) (z + 231) i (nI (eB R i))) := f1.tr (BGF.w (Or.inr (Or.inr (by decide))))
    refine r_gP hK 221 5 10 233 rfl (by decide) ?_
    refine r_gP hK 221 5 0 3 rfl (by decide) ?_
    refine rn_eq (k_sidesDue hK (tb _ f2) hW hi) ?_
    refine rn_eq (q_sI (ks_a hK 233 0 150 rfl) i rfl (by omega) (by decide)) ?_
    refine r_gP hK 221 5 9 232 rfl (by decide) ?_
    refine r_gP hK 221 5 10 233 rfl (by decide) ?_
    refine rn_eq (q_aT (ks_a hK 233 0 150 rfl) i rfl (by omega) (by decide)) ?_
    rw [wI_s, va_up_s]
    refine rn_eq (q_sI (ks_a hK 232 0 150 rfl) i rfl (by omega) (by decide)) ?_
    rw [nI_1]
    refine bg_loop hK hN hW hT hw h8 m (i + 1) fu _ (by omega) (by omega) ((f2.tr (BGF.w (i := 233) (Or.inr (Or.inr (by decide))))).tr (BGF.w (i := 232) (Or.inr (Or.inr (by decide))))) ?_ ?_ (fun s hs' => ?_)
    · rw [wI_n (by omega), wI_n (by omega), wI_n (by omega), wI_n (by omega)]
      exact h1
    · rw [wI_n (by omega), wI_n (by omega), wI_n (by omega), wI_n (by omega)]
      exact h2
    · rw [wI_n (show z + 230 ≠ z + 232 by omega), wI_n (show z + 230 ≠ z + 233 by omega), wI_n (show z + 230 ≠ z + 231 by omega), wI_s, wI_n (show z + 231 ≠ z + 232 by omega), wI_n (show z + 231 ≠ z + 233 by omega), wI_s, wI_n (show z + 231 ≠ z + 230 by omega), wI_s, wI_n (show z + 232 ≠ z + 233 by omega), wI_n (show z + 232 ≠ z + 231 by omega), wI_n (show z + 232 ≠ z + 230 by omega), wI_n (show z + 233 ≠ z + 232 by omega), wI_s, wI_n (show z + 233 ≠ z + 231 by omega), wI_n (show z + 233 ≠ z + 230 by omega)]
      by_cases es : s = i
      · rw [es, va_up_s, va_up_s, va_up_s, va_up_s]
        exact ⟨rfl, rfl, rfl, rfl⟩
      · rw [va_up_n es, va_up_n es, va_up_n es, va_up_n es]
        exact hs s (by omega)
theorem k_begin {v : Int32} (hN2 : 300 ≤ N) (hK : KS sh z) (hN : WN R) (hW : WS R) (hw : OWS ow z) (hT : TB sh d z ow 4 9 (nn R 1) (vS R) L) : Rn (f_X5_begin N sh (z + 221) v d) (fun d' => BGF z d d' ∧ PL d' z R (T0 R) ∧ d'.1 (z + 221) 12 = nI 0 ∧ d'.1 (z + 222) 1 = nI 0 ∧ ∀ t, t < nn R 1 → d'.1 (z + 233) t = nI (T0 R t)) := by
  have n1 := hN.2.1.2
  unfold f_X5_begin
  refine rn_t (ks_o hK 221 5 rfl) ?_
  refine r_gP hK 221 5 3 222 rfl (by decide) ?_
  refine r_pI hK (i := 222) (c := 8) rfl ?_
  refine r_pI hK (i := 221) (c := 5) rfl ?_
  refine r_gP hK 221 5 4 228 rfl (by decide) ?_
  refine rn_eq (fill_eq (ks_a hK 228 0 7 rfl) (by decide) (by omega)) ?_
  refine r_gP hK 221 5 4 228 rfl (by decide) ?_
  refine rn_eq (q_sI (ks_a hK 228 0 7 rfl) 6 rfl (by decide) (by decide)) ?_
  refine r_gP hK 221 5 5 229 rfl (by decide) ?_
  refine rn_eq (fill_eq (ks_a hK 229 0 60 rfl) (by decide) (by omega)) ?_
  refine r_gP hK 221 5 0 3 rfl (by decide) ?_
  refine r_gP hK 3 1 1 4 rfl (by decide) ?_
  generalize hd2 : (va_up (wI (va_up (wI (wI d (z + 222) 1 0) (z + 221) 12 0).1 (z + 228) fun k => if k < 7 then (0 : Int32) else (wI (wI d (z + 222) 1 0) (z + 221) 12 0).1 (z + 228) k, (wI (wI d (z + 222) 1 0) (z + 221) 12 0).2) (z + 228) 6 v).1 (z + 229) fun k => if k < 60 then (-1 : Int32) else (wI (va_up (wI (wI d (z + 222) 1 0) (z + 221) 12 0).1 (z + 228) fun k => if k < 7 then (0 : Int32) else (wI (wI d (z + 222) 1 0) (z + 221) 12 0).1 (z + 228) k, (wI (wI d (z + 222) 1 0) (z + 221) 12 0).2) (z + 228) 6 v).1 (z + 229) k, (wI (va_up (wI (wI d (z + 222) 1 0) (z + 221) 12 0).1 (z + 228) fun k => if k < 7 then (0 : Int32) else (wI (wI d (z + 222) 1 0) (z + 221) 12 0).1 (z + 228) k, (wI (wI d (z + 222) 1 0) (z + 221) 12 0).2) (z + 228) 6 v).2) = d2
  have f2 : BGF z d d2 := by
    rw [← hd2]
    exact ((((BGF.w (i := 222) (Or.inr (Or.inl rfl))).tr (BGF.w (i := 221) (Or.inl rfl))).tr (BGF.row (i := 228) (Or.inr (Or.inr (by decide))))).tr (BGF.w (i := 228) (Or.inr (Or.inr (by decide))))).tr (BGF.row (i := 229) (Or.inr (Or.inr (by decide))))
  have g12 : d2.1 (z + 221) 12 = 0 := by
    rw [← hd2]
    rw [vr_n (by omega), wI_n (by omega), vr_n (by omega), wI_s, va_up_s]
  have g222 : d2.1 (z + 222) 1 = 0 := by
    rw [← hd2]
    rw [vr_n (by omega), wI_n (by omega), vr_n (by omega), wI_n (by omega), wI_s, va_up_s]
  have t2 : TB sh d2 z ow 4 9 (nn R 1) (vS R) L := tb_ix (s := (sh, d)) (s' := (sh, d2)) hT hK hw (by decide) ((f2.fd hw).es) (by omega)
  refine r_gI hK (i := 4) (c := 8) rfl ?_
  rw [t2.1, show (150 : Int32) = nI 150 from rfl, o_min_nI (by omega) (by decide), Nat.min_eq_left n1]
  refine r_pI hK (i := 221) (c := 5) rfl ?_
  have f3 : BGF z d2 (wI d2 (z + 221) 8 (nI (nn R 1))) := BGF.w (Or.inl rfl)
  have t3 : TB sh (wI d2 (z + 221) 8 (nI (nn R 1))) z ow 4 9 (nn R 1) (vS R) L := tb_ix (s := (sh, d2)) (s' := (sh, wI d2 (z + 221) 8 (nI (nn R 1)))) t2 hK hw (by decide) ((f3.fd hw).es) (by omega)
  refine rn_mono (bg_loop (d0 := wI d2 (z + 221) 8 (nI (nn R 1))) hK hN hW t3 hw (by rw [wI_s, va_up_s]) (nn R 1) 0 N _ (by omega) (by omega) BGF.rf rfl rfl (fun s h => absurd h (Nat.not_lt_zero s))) (fun d5 h5 => ?_)
  obtain ⟨k1, k2, k3, k4⟩ := h5
  refine ⟨(f2.tr f3).tr k1, ⟨?_, fun t ht => ?_⟩, ?_, ?_, fun t ht => (k4 t ht).2.2.2⟩
  · rw [k2, wI_s, va_up_s]
  · obtain ⟨y1, y2, y3, -⟩ := k4 t ht
    have := T0_le hW ht
    exact ⟨y1, y2, y3, by omega⟩
  · rw [k2, wI_s, va_up_n (by decide)]
    exact g12
  · rw [k3, wI_n (by omega)]
    exact g222
end KPN
