/-! oneWay(), shut(), sides(): one cell of a STREET changes -/
section TU
variable {s : AS} {sh : Sh} {d : Dt} {z : Nat} {ow : Nat → Nat} {R R' K : Nat → Int32} {u : Bool} {y : YL} {c N : Nat}
theorem tb_congr {o nc S : Nat} {V V' : Nat → Nat → Int32} {L : Nat → Nat} (h : TB sh d z ow o nc S V L) (hv : ∀ c i, c < nc → i < S → V' c i = V c i) : TB sh d z ow o nc S V' L := ⟨h.1, fun c hc => by
  obtain ⟨a, h1, h2, h3, h4, h5, h6, h7⟩ := h.2 c hc
  exact ⟨a, h1, h2, h3, h4, h5, h6, fun i hi => (h7 i hi).trans (hv c i hc hi).symm⟩⟩
theorem pb_congr (h : PB sh d z ow R) (h3 : R' 3 = R 3) (hk : ∀ k, 9426 ≤ k → R' k = R k) : PB sh d z ow R' := fun p hp => by
  have e : ∀ k, 9426 ≤ k → nn R' k = nn R k := fun k q => by unfold nn; rw [hk k q]
  have e3 : nn R' 3 = nn R 3 := by unfold nn; rw [h3]
  rw [e3] at hp
  obtain ⟨a, h1, h2⟩ := h p hp
  refine ⟨a, h1, ?_⟩
  rw [e _ (by omega), e (9426 + 13 * p + 3) (by omega), e (9426 + 13 * p + 4) (by omega), e _ (by omega), e _ (by omega)]
  exact h2
/-- behind ci_change: the books of now hold another R -/
theorem ci_new {d' : Dt} (h : CI s z ow R K true y c) (g1 : s.2.1 (z + 77) 5 = 0) (g2 : s.2.1 (z + 201) 4 = 0) (g3 : s.2.1 (z + 201) 7 = 0) (hd : FD (IX z ow 3 39) s.2 d') (hb : BK s.1 d' z ow 3 R' y.1) (hp : PB s.1 s.2 z ow R') : CI (s.1, d') z ow R' K true y c ∧ RFR z s (s.1, d') := by
  obtain ⟨hK, hw, b1, b2, b3, b4, b5, b6, b7, b8, b9, b10, b11⟩ := h
  have he : ES (IX z ow 3 39) s ow (s.1, d') ow := FD.es (sh := s.1) (d := s.2) hd
  have r0 := es_row hK hw he (i := 0) (by decide) (by omega)
  have r77 := es_row hK hw he (i := 77) (by decide) (by omega)
  have r201 := es_row hK hw he (i := 201) (by decide) (by omega)
  exact ⟨⟨hK, hw, hb, bk_ix b2 (Or.inr rfl) hK hw he (by omega), cs_ix b3 hK hw he (by omega), pb_ix hp hK hw he (by omega) (by omega), pb_ix b5 hK hw he (by omega) (by omega), Or.inl (by rw [r77.1]; exact g1), Or.inl (by rw [r201.1]; exact g2), Or.inl (by rw [r201.1]; exact g3), by rw [r0.1]; exact b9, b10, b11.1, tln_0 (by rw [r201.1]; exact g3)⟩, RFR.ix hK hw he (by omega)⟩
theorem nn_up {j k : Nat} {v : Int32} (h : k ≠ j) : nn (va_up R j v) k = nn R k := by
  unfold nn
  rw [va_up_n h]
/-- a cell of a STREET, but not its ends -/
theorem bk_upS {b i k : Nat} {q : BL} {v : Int32} {d' : Dt} (hb : bck b) (hK : KS sh z) (hw : OWS ow z) (hN : WN R) (h : BK sh d z ow b R q) (hi : i < nn R 1) (hk : k < 7) (ht : TB sh d' z ow (b + 1) 9 (nn R 1) (fun c' i' => if c' = k ∧ i' = i then v else vS R c' i') q.1) (hf : FD (TX z ow (b + 1)) d d') : BK sh d' z ow b (va_up R (16 + 9 * i + k) v) q := by
  obtain ⟨h0, h1, h2, h3, h4, h5, h6, h7⟩ := h
  have hwb := bck_w hb hw
  have hts := bck_t hb
  have n1 := hN.2.1.2
  have hf2 : FD (IX z ow (b + 1) (b + 2)) d d' := hf.mono (fun a ha => tx_ix hts.1 hw ha)
  have he : ES (IX z ow (b + 1) (b + 2)) (sh, d) ow (sh, d') ow := hf2.es
  have r0 : d'.1 (z + b) = d.1 (z + b) := (hf2 (z + b) (nix hwb.1 hwb.2 (by omega))).1
  have e : ∀ j, j ≠ 16 + 9 * i + k → va_up R (16 + 9 * i + k) v j = R j := fun j hj => va_up_n hj
  have t2 : TB sh d' z ow (b + 12) 3 (nn R 2) (vG R) q.2.1 := tb_ix (s := (sh, d)) h2 hK hw hts.2.1 he (by omega)
  have t3 : TB sh d' z ow (b + 17) 9 (nn R 3) (vP R) q.2.2.1 := tb_ix (s := (sh, d)) h3 hK hw hts.2.2.1 he (by omega)
  have t4 : TB sh d' z ow (b + 28) 4 (nn R 4) (vD R) q.2.2.2.1 := tb_ix (s := (sh, d)) h4 hK hw hts.2.2.2 he (by omega)
  have t5 : CE sh d' z ow b q.2.2.2.2 (inC R) (vC R) := ce_ix (s := (sh, d)) h5 hK hwb.1 hwb.2 he (by omega)
  have eI : ∀ x, inC (va_up R (16 + 9 * i + k) v) x → inC R x := fun x hx => by
    obtain ⟨g, hh, q1, q2, q3⟩ := hx
    rw [nn_up (by omega)] at q1 q2
    exact ⟨g, hh, q1, q2, q3⟩
  refine ⟨?_, ?_, ?_, ?_, ?_, ?_, ?_, h7⟩
  · rw [r0, e 0 (by omega)]
    exact h0
  · rw [nn_up (by omega)]
    refine tb_congr ht (fun c' i' hc hi' => ?_)
    show va_up R (16 + 9 * i + k) v (16 + 9 * i' + c') = _
    by_cases q : c' = k ∧ i' = i
    · rw [if_pos q, q.1, q.2, va_up_s]
    · rw [if_neg q, e _ (by omega)]
      rfl
  · rw [nn_up (by omega)]
    exact tb_congr t2 (fun c' i' hc hi' => e _ (by omega))
  · rw [nn_up (by omega)]
    refine tb_congr t3 (fun c' i' hc hi' => ?_)
    unfold vP
    simp only [e (9426 + 13 * i' + 6) (by omega), e (9426 + 13 * i' + 7) (by omega), e (9426 + 13 * i' + 8) (by omega), e (9426 + 13 * i' + 9) (by omega), e (9426 + 13 * i' + 10) (by omega), e (9426 + 13 * i' + 1) (by omega), e (9426 + 13 * i' + 2) (by omega), e (9426 + 13 * i') (by omega), e (9426 + 13 * i' + 11) (by omega), e (9426 + 13 * i' + 12) (by omega)]
  · rw [nn_up (by omega)]
    refine tb_congr t4 (fun c' i' hc hi' => ?_)
    unfold vD
    rw [nn_up (k := 9642 + 3 * i') (by omega), e (9642 + 3 * i') (by omega), e (9642 + 3 * i' + 1) (by omega), e (9642 + 3 * i' + 2) (by omega), e (16 + 9 * nn R (9642 + 3 * i') + 7) (by omega), e (16 + 9 * nn R (9642 + 3 * i') + 8) (by omega)]
  · obtain ⟨a, z1, z2, z3, z4, z5, z6⟩ := t5
    refine ⟨a, z1, z2, z3, z4, z5, fun x hx => ?_⟩
    have r := z6 x (eI x hx)
    refine ⟨r.1, r.2.trans ?_⟩
    unfold vC
    rw [e (5426 + x) (by omega), e (1426 + x) (by omega)]
  · rw [nn_up (by omega)]
    exact h6
/-- a STREET's number, or BAD -/
def stN (R : Nat → Int32) (x : Int32) : Prop := x < 0 ∨ nI (nn R 1) ≤ x
def sp_turn (R : Nat → Int32) (x : Int32) (k : Nat) (v : Int32) : Int32 × Option (Nat → Int32) := if x < 0 ∨ nI (nn R 1) ≤ x then (-2, none) else (R (16 + 9 * x.toNatClampNeg + k), some (va_up R (16 + 9 * x.toNatClampNeg + k) v))
theorem st_of {x : Int32} {n : Nat} (hn : n < 2 ^ 31) (h : ¬ (x < 0 ∨ nI n ≤ x)) : ∃ i, i < n ∧ x = nI i ∧ x.toNatClampNeg = i := by
  rcases pk_ix x hn with q | q | ⟨j, hj, e⟩
  · exact absurd (Or.inl q) h
  · exact absurd (Or.inr q) h
  · exact ⟨j, hj, e, by rw [e]; exact nI_clamp (by omega)⟩
theorem ite01 {p : Prop} {q : Decidable p} : (@ite Int32 p q 0 1 = 0) ↔ p := by
  by_cases h : p
  · rw [if_pos h]
    exact ⟨fun _ => h, fun _ => rfl⟩
  · rw [if_neg h]
    exact ⟨fun q => absurd q (by decide), fun q => absurd q h⟩
theorem k_becomeF {x v : Int32} {k : Nat} (hNf : 30 ≤ N) (hk : k < 7) (h : CI s z ow R K u y c) (hR : WF R) (hKF : WF K) : Rn (f_X11_become N z x (nI k) v s) (fun r => KO z R K u c (sp_turn R x k v) s r ∧ ((sp_turn R x k v).2.isSome = true → r.2.2.1 (z + 77) 5 = 0 ∧ r.2.2.1 (z + 201) 4 = 0 ∧ r.2.2.1 (z + 201) 7 = 0)) := by
  have hK := h.1
  have n1 := hR.1.2.1.2
  have ht4 : tck 4 9 = true := by decide
  unfold f_X11_become
  refine rn_t (ks_o hK 0 11 rfl) ?_
  refine r_gP hK 0 11 1 3 rfl (by decide) ?_
  refine r_gP hK 3 1 1 4 rfl (by decide) ?_
  have hB : BK s.1 s.2 z ow 3 R y.1 := h.2.2.1
  refine rn_eq (tb_has (o := 4) (nc := 9) hK ht4 hB.2.1) ?_
  unfold sp_turn
  refine rn_ite (fun h1 => ?_) (fun h1 => ?_)
  · have h2 : ¬ (x < 0 ∨ nI (nn R 1) ≤ x) := fun q => h1 (ite01.mpr q)
    rw [if_neg h2]
    obtain ⟨i, hi, rfl, e2⟩ := st_of (by omega) h2
    rw [e2]
    refine r_gP hK 0 11 1 3 rfl (by decide) ?_
    refine r_gP hK 3 1 1 4 rfl (by decide) ?_
    refine rn_eq (tb_get (o := 4) (nc := 9) hK ht4 hB.2.1 rfl hi rfl (by omega)) ?_
    refine rn_bind (ci_change hNf h hR.1 hR.2.1 hKF.1) (fun s1 hs => ?_)
    obtain ⟨f1, g1, g2, g3, ow1, y1, -, c1⟩ := hs
    have hK1 := c1.1
    have hw1 := c1.2.1
    have hB1 : BK s1.1 s1.2 z ow1 3 R y1.1 := c1.2.2.1
    unfold f_X11_become_39
    refine r_gP hK1 0 11 1 3 rfl (by decide) ?_
    refine r_gP hK1 3 1 1 4 rfl (by decide) ?_
    refine rn_bind (tb_put (o := 4) (nc := 9) hK1 hw1 ht4 hB1.2.1 rfl hi rfl (by omega)) (fun d1 hd => ?_)
    refine rn_bind (k_answer hK1) (fun r hr => rn_some ?_)
    have hb := bk_upS (Or.inl rfl) hK1 hw1 hR.1 hB1 hi hk hd.1 hd.2
    have q := ci_new c1 g1 g2 g3 (hd.2.mono (fun a ha => ix_mono (tx_ix ht4 hw1 ha) (by omega) (by omega))) hb (pb_congr c1.2.2.2.2.2.1 (va_up_n (by omega)) (fun j hj => va_up_n (by omega)))
    have q2 := ci_lg q.1 hr.2
    have hix := hd.2.mono (fun a ha => tx_ix ht4 hw1 ha)
    have e77 : r.2.1 (z + 77) = s1.2.1 (z + 77) := by
      rw [hr.2.2 (z + 77) (by omega) (by omega)]
      exact (hix (z + 77) (nix (hw1 77 (by decide) (by decide)) (by decide) (by omega))).1
    have e201 : r.2.1 (z + 201) = s1.2.1 (z + 201) := by
      rw [hr.2.2 (z + 201) (by omega) (by omega)]
      exact (hix (z + 201) (nix (hw1 201 (by decide) (by decide)) (by decide) (by omega))).1
    refine ⟨⟨hr.1, (f1.tr q.2).tr q2.2, ow1, y1, q2.1⟩, fun _ => ⟨?_, ?_, ?_⟩⟩
    · show r.2.1 (z + 77) 5 = 0
      rw [e77]
      exact g1
    · show r.2.1 (z + 201) 4 = 0
      rw [e201]
      exact g2
    · show r.2.1 (z + 201) 7 = 0
      rw [e201]
      exact g3
  · have h2 : x < 0 ∨ nI (nn R 1) ≤ x := ite01.mp (Decidable.of_not_not h1)
    rw [if_pos h2]
    refine rn_bind (k_refuse hK) (fun r hr => rn_some ?_)
    exact ⟨ko_lg h hr rfl, fun q => absurd q (by decide)⟩
theorem k_become {x v : Int32} {k : Nat} (hNf : 30 ≤ N) (hk : k < 7) (h : CI s z ow R K u y c) (hR : WF R) (hKF : WF K) : Rn (f_X11_become N z x (nI k) v s) (KO z R K u c (sp_turn R x k v) s) := rn_mono (k_becomeF hNf hk h hR hKF) (fun _ q => q.1)
theorem k_oneWay {x b : Int32} (hNf : 30 ≤ N) (h : CI s z ow R K u y c) (hR : WF R) (hKF : WF K) : Rn (f_X11_oneWay N z x b s) (KO z R K u c (sp_turn R x 5 (if b = 0 then 0 else 1)) s) := by
  unfold f_X11_oneWay
  refine rn_t (ks_o h.1 0 11 rfl) ?_
  refine rn_ite (fun h1 => ?_) (fun h1 => ?_)
  · rw [if_pos h1]
    exact rn_bind (k_become hNf (k := 5) (by decide) h hR hKF) (fun r hr => rn_some hr)
  · rw [if_neg h1]
    exact rn_bind (k_become hNf (k := 5) (by decide) h hR hKF) (fun r hr => rn_some hr)
theorem k_shut {x b : Int32} (hNf : 30 ≤ N) (h : CI s z ow R K u y c) (hR : WF R) (hKF : WF K) : Rn (f_X11_shut N z x b s) (KO z R K u c (sp_turn R x 4 (if b = 0 then 0 else 1)) s) := by
  unfold f_X11_shut
  refine rn_t (ks_o h.1 0 11 rfl) ?_
  refine rn_ite (fun h1 => ?_) (fun h1 => ?_)
  · rw [if_pos h1]
    exact rn_bind (k_become hNf (k := 4) (by decide) h hR hKF) (fun r hr => rn_some hr)
  · rw [if_neg h1]
    exact rn_bind (k_become hNf (k := 4) (by decide) h hR hKF) (fun r hr => rn_some hr)
end TU
