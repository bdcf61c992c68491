/-! split() of the class -/
def WO (R : Nat → Int32) : Prop := ∀ p, p < nn R 3 → R (9426 + 13 * p + 2) = 1 → ∀ x, 5 ≤ x → x < 13 → R (9426 + 13 * p + x) = 0
section SPK
variable {s s' s0 s1 : AS} {sh : Sh} {d d' d0 : Dt} {z : Nat} {ow ow' : Nat → Nat} {R R' K : Nat → Int32} {u : Bool} {y y1 : YL} {c N p k l a i : Nat} {q q' : BL} {v : Int32}
theorem bk_lg (hK : KS sh z) (hw : OWS ow z) (h : BK sh d z ow 3 R q) (hl : LG z d d') : BK sh d' z ow 3 R q := bk_ix (s := (sh, d)) (s' := (sh, d')) h (Or.inl rfl) hK hw ((hl.ix hw).es) (by omega)
theorem pb_lg (hK : KS sh z) (hw : OWS ow z) (h : PB sh d z ow R) (hl : LG z d d') : PB sh d' z ow R := pb_ix (s := (sh, d)) (s' := (sh, d')) h hK hw ((hl.ix hw).es) (by omega) (by omega)
def TDQ (z : Nat) (p fr e f : Nat) (d0 : Dt) (r : Int32 × Dt) : Prop := r.1 = nI e ∧ ∃ d1, LG z d0 d1 ∧ r.2 = wI (wI (wI d1 (z + 237) p (nI fr)) (z + 238) p (nI e)) (z + 239) p (nI f)
theorem ktd_end {fr e f : Nat} (hK : KS sh z) (hp : p < 12) (hl : LG z d0 d) : Rn (f_X11_takeDrives_172 N sh z (nI p) (nI fr) (nI f) (nI e) d) (TDQ z p fr e f d0) := by
  unfold f_X11_takeDrives_172
  rw [← z0 (z := z)]
  refine r_gP hK 0 11 8 237 rfl (by decide) ?_
  refine rn_eq (q_sI (ks_a hK 237 0 12 rfl) p rfl hp (by decide)) ?_
  refine r_gP hK 0 11 9 238 rfl (by decide) ?_
  refine rn_eq (q_sI (ks_a hK 238 0 12 rfl) p rfl hp (by decide)) ?_
  refine r_gP hK 0 11 10 239 rfl (by decide) ?_
  refine rn_eq (q_sI (ks_a hK 239 0 12 rfl) p rfl hp (by decide)) ?_
  exact rn_some ⟨rfl, d, hl, rfl⟩
theorem ktd_loop {fr e f : Nat} (hR : WF R) (hK : KS sh z) (hw : OWS ow z) (hB0 : BK sh d0 z ow 3 R q) (hP0 : PB sh d0 z ow R) (hp : p < nn R 3) : ∀ (m i sum fu : Nat) (d : Dt), i + m = nn R 4 → m + 1 < fu → sum ≤ nn R (9426 + 13 * p + 1) → tkF R p m i sum = (e, f) → LG z d0 d → Rn (f_X11_takeDrives_8 N sh fu z (nI p) (nI fr) (nI sum) (nI i) 1 d) (TDQ z p fr e f d0)
  | m, i, sum, fu, d, hi, hf, hs, ht, hl => by
    obtain ⟨fu, rfl⟩ : ∃ q, fu = q + 1 := ⟨fu - 1, by omega⟩
    show Rn (g_X11_takeDrives_8 N sh (f_X11_takeDrives_8 N sh fu) z (nI p) (nI fr) (nI sum) (nI i) 1 d) _
    have n4 := hR.1.2.2.2.2.2
    have n3 := hR.1.2.2.2.1.2
    have hW := wpk_of hR
    have hB := bk_lg hK hw hB0 hl
    have hP := pb_lg hK hw hP0 hl
    obtain ⟨w1, w2, w3⟩ := wp_min hR hp
    unfold g_X11_takeDrives_8
    refine r_now hK 4 31 (by decide) ?_
    refine r_gI hK (i := 31) (c := 8) rfl ?_
    rw [hB.2.2.2.2.1.1]
    cases m with
    | zero =>
      refine rn_t (nI_le (by omega) (by omega)) ?_
      have e1 : (i, sum) = (e, f) := ht
      injection e1 with e1 e2
      subst e1
      subst e2
      exact ktd_end hK (by omega) hl
    | succ m =>
      have hi4 : i < nn R 4 := by omega
      obtain ⟨t1, t2, t3⟩ := wd_at hR hi4
      obtain ⟨-, ⟨l1, l2, l3⟩, -⟩ := hR.2.2.1 _ t1
      have hmb := mi_b (p := p) hR hi4
      have sb := psN_le (R := R) (p := p) (i := i)
      refine rn_f (nI_ge hi4 (by omega)) ?_
      refine rn_f (by decide) ?_
      refine r_now hK 4 31 (by decide) ?_
      refine rn_eq (tb_get (o := 31) (nc := 4) (c := 0) hK (by decide) hB.2.2.2.2.1 rfl hi4 rfl (by decide)) ?_
      have ev0 : vD R 0 i = R (9642 + 3 * i) := rfl
      rw [ev0, t2]
      refine r_now hK 4 31 (by decide) ?_
      refine rn_eq (tb_get (o := 31) (nc := 4) (c := 3) hK (by decide) hB.2.2.2.2.1 rfl hi4 rfl (by decide)) ?_
      have ev3 : vD R 3 i = R (9642 + 3 * i + 2) := rfl
      rw [ev3]
      have no : ¬ fit R p i sum → ∀ d1 w, LG z d0 d1 → Rn (f_X11_takeDrives_153 N sh (f_X11_takeDrives_8 N sh fu) z (nI p) (nI fr) (nI sum) (nI i) w d1) (TDQ z p fr e f d0) := fun hn d1 w hl1 => by
        have e1 : (i, sum) = (e, f) := (if_neg hn).symm.trans ht
        injection e1 with e1 e2
        subst e1
        subst e2
        unfold f_X11_takeDrives_153 f_X11_takeDrives_154 f_X11_takeDrives_169
        refine rn_t rfl ?_
        obtain ⟨fu, rfl⟩ : ∃ q, fu = q + 1 := ⟨fu - 1, by omega⟩
        show Rn (g_X11_takeDrives_8 N sh (f_X11_takeDrives_8 N sh fu) z (nI p) (nI fr) (nI sum) (nI i) 0 d1) _
        unfold g_X11_takeDrives_8
        refine r_now hK 4 31 (by decide) ?_
        refine r_gI hK (i := 31) (c := 8) rfl ?_
        rw [(bk_lg hK hw hB0 hl1).2.2.2.2.1.1]
        refine rn_f (nI_ge hi4 (by omega)) ?_
        refine rn_t rfl ?_
        exact ktd_end hK (by omega) hl1
      have fin : ∀ d1, LG z d0 d1 → Rn (f_X11_takeDrives_86 N sh (f_X11_takeDrives_8 N sh fu) z (nI p) (nI fr) (nI sum) (nI i) (nI (nn R (9642 + 3 * i))) (nI (psN R p i)) d1) (TDQ z p fr e f d0) := fun d1 hl1 => by
        have hB1 := bk_lg hK hw hB0 hl1
        have hP1 := pb_lg hK hw hP0 hl1
        unfold f_X11_takeDrives_86 f_X11_takeDrives_123
        by_cases h0 : psN R p i = 0
        · rw [h0]
          refine rn_f (fun q => q rfl) ?_
          refine rn_t rfl ?_
          exact no (fun q => q.1 h0) d1 _ hl1
        refine rn_t (nI_ne0 (by omega) (by omega)) ?_
        obtain ⟨a, a1, -, -, a4⟩ := k_body hK hP1 hp hR.1
        rw [← z0 (z := z)]
        refine r_gP hK 0 11 6 235 rfl (by decide) ?_
        refine rn_eq a1 ?_
        rw [z0 (z := z)]
        refine r_now hK 1 4 (by decide) ?_
        refine rn_eq (tb_get (o := 4) (nc := 9) (c := 6) hK (by decide) hB1.2.1 rfl t1 rfl (by decide)) ?_
        have ev : vS R 6 (nn R (9642 + 3 * i)) = nI (sln R (nn R (9642 + 3 * i))) := l1
        rw [ev]
        refine rn_bind (k_takes hK hW hp a4 l3 l2) (fun r hr => ?_)
        rw [hr.1, pk_mul]
        have hl2 := hl1.tr hr.2
        refine rn_f (nI_ne0 (by omega) (by omega)) ?_
        refine r_now hK 3 20 (by decide) ?_
        refine rn_eq (tb_get (o := 20) (nc := 9) (c := 5) hK (by decide) (bk_lg hK hw hB0 hl2).2.2.2.1 rfl hp rfl (by decide)) ?_
        have ev5 : vP R 5 p = R (9426 + 13 * p + 1) := rfl
        have em : psN R p i * tkR R p (sln R (nn R (9642 + 3 * i))) = miR R p i := rfl
        rw [ev5, w1, em, nI_add]
        refine rn_ite (fun h5 => ?_) (fun h5 => ?_)
        · exact no (fun q => by
            have := (nI_ltI (by omega) (by omega)).mp h5
            have := q.2
            omega) _ _ hl2
        have hfit : fit R p i sum := ⟨h0, by
          rcases Nat.lt_or_ge (nn R (9426 + 13 * p + 1)) (sum + miR R p i) with q | q
          · exact absurd (nI_lt q (by omega)) h5
          · exact q⟩
        unfold f_X11_takeDrives_154 f_X11_takeDrives_169
        refine rn_f (by decide) ?_
        rw [nI_add, nI_1]
        exact ktd_loop hR hK hw hB0 hP0 hp m (i + 1) (sum + miR R p i) fu r.2 (by omega) (by omega) hfit.2 ((if_pos hfit).symm.trans ht) hl2
      refine rn_ite (fun h1 => ?_) (fun h1 => ?_)
      · have e1 : psN R p i = 1 := if_neg h1
        have := fin d hl
        rw [e1] at this
        exact this
      · have h1 := Decidable.of_not_not h1
        have e1 : psN R p i = (psR R p (R (16 + 9 * nn R (9642 + 3 * i) + 0))).toNatClampNeg := if_pos h1
        obtain ⟨a, a1, -, -, a4⟩ := k_body hK hP hp hR.1
        rw [← z0 (z := z)]
        refine r_gP hK 0 11 6 235 rfl (by decide) ?_
        refine rn_eq a1 ?_
        rw [z0 (z := z)]
        refine r_now hK 1 4 (by decide) ?_
        refine rn_eq (tb_get (o := 4) (nc := 9) (c := 0) hK (by decide) hB.2.1 rfl t1 rfl (by decide)) ?_
        have ev : vS R 0 (nn R (9642 + 3 * i)) = R (16 + 9 * nn R (9642 + 3 * i) + 0) := rfl
        rw [ev]
        refine rn_bind (k_passes hK hW hp a4) (fun r hr => ?_)
        have e2 := psR_nI (R := R) (p := p) (v := R (16 + 9 * nn R (9642 + 3 * i) + 0))
        rw [← e1] at e2
        rw [hr.1, e2]
        exact fin r.2 (hl.tr hr.2)
/-- what the first p PLOUGHS that are not OUT took, in the class -/
def KSA (d : Dt) (z : Nat) (R : Nat → Int32) (p : Nat) : Prop := ∀ p', p' < p → R (9426 + 13 * p' + 2) ≠ 1 → d.1 (z + 237) p' = nI (spF R p') ∧ d.1 (z + 238) p' = nI (spF R (p' + 1)) ∧ d.1 (z + 239) p' = nI (spM R p')
theorem chg_rows {qn qb : BL} (hNf : 30 ≤ N) (h : CI s z ow R K u y c) (hR : WF R) (hKF : WF K) : Rn (f_X11_change N z s) (fun s' => ∀ i, i = 237 ∨ i = 238 ∨ i = 239 → s'.2.1 (z + i) = s.2.1 (z + i)) := by
  refine rn_mono (k_change hNf h.1 h.2.1 hKF.1 hR.1 hR.2.1 h.2.2.1 h.2.2.2.1) (fun s' hs => ?_)
  obtain ⟨ow1, q1, s1, e1, x1, x2, rfl, w1, m1⟩ := hs
  intro i hi
  have e : s1.2.1 (z + i) = s.2.1 (z + i) := by
    rcases hi with rfl | rfl | rfl
    · exact (es_row h.1 h.2.1 e1 (i := 237) (by decide) (by omega)).1
    · exact (es_row h.1 h.2.1 e1 (i := 238) (by decide) (by omega)).1
    · exact (es_row h.1 h.2.1 e1 (i := 239) (by decide) (by omega)).1
  rw [← e]
  show (wI (wI (wI (wI s1.2 z 13 1) (z + 77) 5 0) (z + 201) 4 0) (z + 201) 7 0).1 (z + i) = _
  rw [wI_n (by omega), wI_n (by omega), wI_n (by omega), wI_n (by omega)]
theorem k_isOut2 (hk : R (9426 + 13 * p) = nI (nn R (9426 + 13 * p)) ∧ nn R (9426 + 13 * p) ≤ 4) (hK : KS sh z) {L : Nat → Nat} (hT : TB sh d z ow 20 9 (nn R 3) (vP R) L) (hp : p < nn R 3) : f_X1_isOut N sh (z + 3) (nI p) d = some (if R (9426 + 13 * p + 2) = 1 then 1 else 0) := by
  refine rn_val ?_
  unfold f_X1_isOut f_X1_isOut_19
  refine rn_t (ks_o hK 3 1 rfl) ?_
  refine r_gP hK 3 1 3 20 rfl (by decide) ?_
  refine rn_eq (tb_get (o := 20) (nc := 9) (c := 6) hK (by decide) hT rfl hp rfl (by decide)) ?_
  have ev : vP R 6 p = if R (9426 + 13 * p + 2) = 1 then -1 else R (9426 + 13 * p) := rfl
  rw [ev]
  by_cases h1 : R (9426 + 13 * p + 2) = 1
  · rw [if_pos h1, if_pos h1]
    exact rn_f (fun q => q rfl) ⟨1, rfl, rfl⟩
  · rw [if_neg h1, if_neg h1]
    refine rn_t (fun e => ?_) ⟨0, rfl, rfl⟩
    rw [hk.1] at e
    exact nI_m1 (by omega) e
theorem slF_k {p' x : Nat} (hx : x < 5) : ∀ p, slF R p (9426 + 13 * p' + x) = R (9426 + 13 * p' + x)
  | 0 => rfl
  | p + 1 => by
    show (if R (9426 + 13 * p + 2) = 1 then lpR (slF R p) p else slP (lpR (slF R p) p) p (spF R p) (spF R (p + 1) - spF R p) (spM R p)) (9426 + 13 * p' + x) = _
    have ih := slF_k (p' := p') hx p
    split
    · rw [lpR_n (by omega)]
      exact ih
    · rw [slP_n (by omega), lpR_n (by omega)]
      exact ih
theorem slF_wdn (hR : WF R) (hp : p ≤ 12) : WDn (slF R p) := wdn_cg (wdn_of hR) (slF_wn hR.1) (fun j _ hj => by
  rcases Nat.lt_or_ge j 9426 with q | q
  · exact slF_n q p
  · exact slF_hi p (by omega))
theorem slP_vP {x x2 x3 i c : Nat} : vP (slP R p x x2 x3) c i = if c = 4 ∧ i = p then nI x3 else if c = 1 ∧ i = p then nI x2 else if c = 0 ∧ i = p then nI x else vP R c i := by
  have e6 : slP R p x x2 x3 (9426 + 13 * p + 6) = nI x := by unfold slP; rw [va_up_n (by omega), va_up_n (by omega), va_up_s]
  have e7 : slP R p x x2 x3 (9426 + 13 * p + 7) = nI x2 := by unfold slP; rw [va_up_n (by omega), va_up_s]
  have e10 : slP R p x x2 x3 (9426 + 13 * p + 10) = nI x3 := by unfold slP; rw [va_up_s]
  have en : ∀ t, (t < 5 ∨ t = 8 ∨ t = 9 ∨ t = 11 ∨ t = 12) → slP R p x x2 x3 (9426 + 13 * p + t) = R (9426 + 13 * p + t) := fun t ht => by
    unfold slP
    rw [va_up_n (by omega), va_up_n (by omega), va_up_n (by omega), va_up_n (by omega)]
  by_cases hi : i = p
  · subst hi
    by_cases h4 : c = 4
    · subst h4
      rw [if_pos ⟨rfl, rfl⟩]
      exact e10
    rw [if_neg (fun q => h4 q.1)]
    by_cases h1 : c = 1
    · subst h1
      rw [if_pos ⟨rfl, rfl⟩]
      exact e7
    rw [if_neg (fun q => h1 q.1)]
    by_cases h0 : c = 0
    · subst h0
      rw [if_pos ⟨rfl, rfl⟩]
      exact e6
    rw [if_neg (fun q => h0 q.1)]
    unfold vP
    simp only [if_neg h0, if_neg h1, if_neg h4, en 8 (by omega), en 9 (by omega), en 1 (by omega), en 2 (by omega), show slP R i x x2 x3 (9426 + 13 * i) = R (9426 + 13 * i) from en 0 (by omega), en 11 (by omega), en 12 (by omega)]
  · rw [if_neg (fun q => hi q.2), if_neg (fun q => hi q.2), if_neg (fun q => hi q.2)]
    have e : ∀ t, t < 13 → slP R p x x2 x3 (9426 + 13 * i + t) = R (9426 + 13 * i + t) := fun t ht => slP_n (by omega)
    unfold vP
    simp only [e 6 (by omega), e 7 (by omega), e 8 (by omega), e 9 (by omega), e 10 (by omega), e 1 (by omega), e 2 (by omega), show slP R p x x2 x3 (9426 + 13 * i) = R (9426 + 13 * i) from e 0 (by omega), e 11 (by omega), e 12 (by omega)]
theorem ks_put (hN1 : 200 ≤ N) (hR : WF R) (hO : WO R) (c1 : CI s1 z ow R R true y1 c) (g1 : s1.2.1 (z + 77) 5 = 0) (g2 : s1.2.1 (z + 201) 4 = 0) (g3 : s1.2.1 (z + 201) 7 = 0) (hf1 : RFR z s0 s1) (hS : KSA s1.2 z R (nn R 3)) : ∀ (m p fu : Nat) (d : Dt), p + m = nn R 3 → m < fu → FD (IX z ow 3 39) s1.2 d → BK s1.1 d z ow 3 (slF R p) y1.1 → Rn (f_X11_split_68 N fu z (nI p) (s1.1, d)) (KO z R K u c (1, some (slF R (nn R 3))) s0)
  | 0, p, fu, d, hp, hf, hF, hB => by
    obtain ⟨fu, rfl⟩ : ∃ q, fu = q + 1 := ⟨fu - 1, by omega⟩
    show Rn (g_X11_split_68 N (f_X11_split_68 N fu) z (nI p) (s1.1, d)) _
    have hK := c1.1
    have n3 := hR.1.2.2.2.1.2
    unfold g_X11_split_68 f_X11_split_168
    refine r_now hK 3 20 (by decide) ?_
    refine r_gI hK (i := 20) (c := 8) rfl ?_
    have e3 : nn (slF R p) 3 = nn R 3 := by unfold nn; rw [slF_n (by decide)]
    rw [hB.2.2.2.1.1, e3]
    refine rn_t (nI_le (by omega) (by omega)) ?_
    have e : p = nn R 3 := by omega
    subst e
    have qn := ci_new c1 g1 g2 g3 hF hB (pb_cg2 c1.2.2.2.2.2.1 e3 (fun p' x hx => slF_k (by omega) _))
    refine rn_bind (k_answer hK) (fun r hr => rn_some ?_)
    have q3 := ci_lg qn.1 hr.2
    exact ⟨hr.1, (hf1.tr qn.2).tr q3.2, ow, _, q3.1⟩
  | m + 1, p, fu, d, hp, hf, hF, hB => by
    obtain ⟨fu, rfl⟩ : ∃ q, fu = q + 1 := ⟨fu - 1, by omega⟩
    have ih := ks_put hN1 hR hO c1 g1 g2 g3 hf1 hS m (p + 1) fu
    show Rn (g_X11_split_68 N (f_X11_split_68 N fu) z (nI p) (s1.1, d)) _
    have hK := c1.1
    have hw := c1.2.1
    have n3 := hR.1.2.2.2.1.2
    have hp3 : p < nn R 3 := by omega
    have wk := (hR.2.2.2.2.1 p hp3).1
    have e3 : nn (slF R p) 3 = nn R 3 := by unfold nn; rw [slF_n (by decide)]
    have wd := slF_wdn (R := R) (p := p) hR (by omega)
    have hL := hB.2.2.2.2.2.2.2.2.2.1
    have row : ∀ (d2 : Dt), FD (IX z ow 3 39) s1.2 d2 → ∀ i, i = 237 ∨ i = 238 ∨ i = 239 → d2.1 (z + i) = s1.2.1 (z + i) := fun d2 h2 i hi => by
      have he : ES (IX z ow 3 39) s1 ow (s1.1, d2) ow := FD.es (sh := s1.1) (d := s1.2) h2
      rcases hi with rfl | rfl | rfl
      · exact (es_row hK hw he (i := 237) (by decide) (by omega)).1
      · exact (es_row hK hw he (i := 238) (by decide) (by omega)).1
      · exact (es_row hK hw he (i := 239) (by decide) (by omega)).1
    unfold g_X11_split_68 f_X11_split_162
    refine r_now hK 3 20 (by decide) ?_
    refine r_gI hK (i := 20) (c := 8) rfl ?_
    rw [hB.2.2.2.1.1, e3]
    refine rn_f (nI_ge hp3 (by omega)) ?_
    refine r_gP hK 0 11 1 3 rfl (by decide) ?_
    have k0 : slF R p (9426 + 13 * p) = R (9426 + 13 * p) := slF_k (x := 0) (by decide) p
    refine rn_eq (k_isOut2 (R := slF R p) ⟨by unfold nn; rw [k0]; exact wk.1, by unfold nn; rw [k0]; exact wk.2⟩ hK hB.2.2.2.1 (by rw [e3]; exact hp3)) ?_
    rw [slF_k (x := 2) (by decide) p, nI_1]
    by_cases h : R (9426 + 13 * p + 2) = 1
    · rw [if_pos h]
      refine rn_t (by decide) ?_
      have e : slF R (p + 1) = lpR (slF R p) p := if_pos h
      refine ih d (by omega) (by omega) hF ?_
      rw [e]
      refine bk_P (s := (s1.1, d)) (s' := (s1.1, d)) (L' := y1.1.2.2.1) wd (Or.inl rfl) hK hw hB ES.rf ?_ hL (fun k _ hk => lpR_n (by omega))
      have e4 : nn (lpR (slF R p) p) 3 = nn (slF R p) 3 := by unfold nn; rw [lpR_n (by omega)]
      rw [e4]
      refine tb_congr hB.2.2.2.1 (fun c9 i9 hc hi => ?_)
      rw [lp_vP hc]
      by_cases h9 : i9 = p ∧ c9 ≠ 5 ∧ c9 ≠ 6
      · rw [if_pos h9]
        obtain ⟨rfl, h5, h6⟩ := h9
        have zz : ∀ x, 5 ≤ x → x < 13 → slF R i9 (9426 + 13 * i9 + x) = 0 := fun x h1 h2 => (slF_hi i9 (by omega)).trans (hO i9 hp3 h x h1 h2)
        have hc9 : c9 = 0 ∨ c9 = 1 ∨ c9 = 2 ∨ c9 = 3 ∨ c9 = 4 ∨ c9 = 7 ∨ c9 = 8 := by omega
        rcases hc9 with rfl | rfl | rfl | rfl | rfl | rfl | rfl
        · exact (zz 6 (by decide) (by decide)).symm
        · exact (zz 7 (by decide) (by decide)).symm
        · exact (zz 8 (by decide) (by decide)).symm
        · exact (zz 9 (by decide) (by decide)).symm
        · exact (zz 10 (by decide) (by decide)).symm
        · exact (zz 11 (by decide) (by decide)).symm
        · exact (zz 12 (by decide) (by decide)).symm
      · rw [if_neg h9]
    · rw [if_neg h]
      refine rn_f (fun q => q rfl) ?_
      have e : slF R (p + 1) = slP (lpR (slF R p) p) p (spF R p) (spF R (p + 1) - spF R p) (spM R p) := if_neg h
      have b := spF_b (R := R) p
      have b2 := spF_b (R := R) (p + 1)
      obtain ⟨t1, t2, t3⟩ := hS p hp3 h
      rw [← z0 (z := z)]
      refine r_gP hK 0 11 1 3 rfl (by decide) ?_
      refine rn_bind (k_dropPart (by omega) wd hK hw hB (by rw [e3]; exact hp3)) (fun d1 hd1 => ?_)
      have mo : ∀ {a b : Dt}, FD (TX z ow 20) a b → FD (IX z ow 20 21) a b := fun h => h.mono (fun a ha => tx_ix (nc := 9) (by decide) hw ha)
      have hF1 : FD (IX z ow 3 39) s1.2 d1 := hF.tr (hd1.1.mono (fun a ha => ix_mono ha (by omega) (by omega)))
      have e4 : nn (lpR (slF R p) p) 3 = nn R 3 := by
        rw [← e3]
        unfold nn
        rw [lpR_n (by omega)]
      have a237 := ks_a hK 237 0 12 rfl
      have a238 := ks_a hK 238 0 12 rfl
      have a239 := ks_a hK 239 0 12 rfl
      refine r_gP hK 0 11 1 3 rfl (by decide) ?_
      refine r_gP hK 3 1 3 20 rfl (by decide) ?_
      refine r_gP hK 0 11 8 237 rfl (by decide) ?_
      refine rn_eq (q_aT a237 p rfl (by omega) (by decide)) ?_
      rw [row d1 hF1 237 (by decide), t1]
      refine rn_bind (tb_put (o := 20) (nc := 9) (c := 0) hK hw (by decide) hd1.2.2.2.2.1 rfl (by rw [e4]; exact hp3) rfl (by decide)) (fun d2 hd2 => ?_)
      have hF2 : FD (IX z ow 3 39) s1.2 d2 := hF1.tr ((mo hd2.2).mono (fun a ha => ix_mono ha (by omega) (by omega)))
      refine r_gP hK 0 11 1 3 rfl (by decide) ?_
      refine r_gP hK 3 1 3 20 rfl (by decide) ?_
      refine r_gP hK 0 11 9 238 rfl (by decide) ?_
      refine rn_eq (q_aT a238 p rfl (by omega) (by decide)) ?_
      refine r_gP hK 0 11 8 237 rfl (by decide) ?_
      refine rn_eq (q_aT a237 p rfl (by omega) (by decide)) ?_
      rw [row d2 hF2 237 (by decide), row d2 hF2 238 (by decide), t1, t2, pk_sub b.2]
      refine rn_bind (tb_put (o := 20) (nc := 9) (c := 1) hK hw (by decide) hd2.1 rfl (by rw [e4]; exact hp3) rfl (by decide)) (fun d3 hd3 => ?_)
      have hF3 : FD (IX z ow 3 39) s1.2 d3 := hF2.tr ((mo hd3.2).mono (fun a ha => ix_mono ha (by omega) (by omega)))
      refine r_gP hK 0 11 1 3 rfl (by decide) ?_
      refine r_gP hK 3 1 3 20 rfl (by decide) ?_
      refine r_gP hK 0 11 10 239 rfl (by decide) ?_
      refine rn_eq (q_aT a239 p rfl (by omega) (by decide)) ?_
      rw [row d3 hF3 239 (by decide), t3]
      refine rn_bind (tb_put (o := 20) (nc := 9) (c := 4) hK hw (by decide) hd3.1 rfl (by rw [e4]; exact hp3) rfl (by decide)) (fun d4 hd4 => ?_)
      rw [z0 (z := z)]
      refine ih d4 (by omega) (by omega) (hF3.tr ((mo hd4.2).mono (fun a ha => ix_mono ha (by omega) (by omega)))) ?_
      rw [e]
      have wd1 : WDn (lpR (slF R p) p) := wdn_cg wd (zr_wn wd.1 (by omega) 8) (fun j _ hj => lpR_n (by omega))
      have es : ES (IX z ow 20 21) (s1.1, d1) ow (s1.1, d4) ow := FD.es (sh := s1.1) (d := d1) (((mo hd2.2).tr (mo hd3.2)).tr (mo hd4.2))
      refine bk_P (s := (s1.1, d1)) (s' := (s1.1, d4)) (q := y1.1) (L' := y1.1.2.2.1) wd1 (Or.inl rfl) hK hw hd1.2 es ?_ hL (fun k _ hk => slP_n (by omega))
      have e5 : nn (slP (lpR (slF R p) p) p (spF R p) (spF R (p + 1) - spF R p) (spM R p)) 3 = nn (lpR (slF R p) p) 3 := by unfold nn; rw [slP_n (by omega)]
      rw [e5]
      exact tb_congr hd4.1 (fun c9 i9 _ _ => slP_vP)
theorem ks_out (hNf : 2100 ≤ N) (hR : WF R) (hO : WO R) (hKF : WF K) : ∀ (m p fu : Nat) (s : AS), p + m = nn R 3 → m < fu → RFR z s0 s → (∃ ow y, CI s z ow R K u y c) → KSA s.2 z R p → Rn (f_X11_split_4 N fu z (nI (spF R p)) (nI p) s) (KO z R K u c (sp_split R) s0)
  | 0, p, fu, s, hp, hf, hF, hC, hS => by
    obtain ⟨fu, rfl⟩ : ∃ q, fu = q + 1 := ⟨fu - 1, by omega⟩
    obtain ⟨ow, y, hC⟩ := hC
    show Rn (g_X11_split_4 N (f_X11_split_4 N fu) z (nI (spF R p)) (nI p) s) _
    have hK := hC.1
    have hB : BK s.1 s.2 z ow 3 R y.1 := hC.2.2.1
    have n3 := hR.1.2.2.2.1.2
    have n4 := hR.1.2.2.2.2.2
    unfold g_X11_split_4 f_X11_split_42
    refine r_now hK 3 20 (by decide) ?_
    refine r_gI hK (i := 20) (c := 8) rfl ?_
    rw [hB.2.2.2.1.1]
    refine rn_t (nI_le (by omega) (by omega)) ?_
    have e : p = nn R 3 := by omega
    subst e
    refine r_now hK 4 31 (by decide) ?_
    refine r_gI hK (i := 31) (c := 8) rfl ?_
    rw [hB.2.2.2.2.1.1]
    have b := spF_b (R := R) (nn R 3)
    by_cases h : nn R 4 ≤ spF R (nn R 3)
    · rw [show sp_split R = _ from if_pos h]
      refine rn_t (nI_le h (by omega)) ?_
      refine rn_bind (rn_and (ci_change (by omega) hC hR.1 hR.2.1 hKF.1) (chg_rows (qn := y.1) (qb := y.1) (by omega) hC hR hKF)) (fun s1 hs => ?_)
      obtain ⟨⟨f1, g1, g2, g3, ow1, y1, -, c1⟩, rows⟩ := hs
      unfold f_X11_split_66
      refine ks_put (by omega) hR hO c1 g1 g2 g3 (hF.tr f1) (fun p' hp' ho => ?_) (nn R 3) 0 N s1.2 (by omega) (by omega) FD.rf c1.2.2.1
      rw [rows 237 (by decide), rows 238 (by decide), rows 239 (by decide)]
      exact hS p' hp' ho
    · rw [show sp_split R = _ from if_neg h]
      refine rn_f (nI_ge (by omega) (by omega)) ?_
      refine rn_bind (k_answer hK) (fun r hr => rn_some ?_)
      have q3 := ci_lg hC hr.2
      exact ⟨hr.1, hF.tr q3.2, ow, y, q3.1⟩
  | m + 1, p, fu, s, hp, hf, hF, hC, hS => by
    obtain ⟨fu, rfl⟩ : ∃ q, fu = q + 1 := ⟨fu - 1, by omega⟩
    have ih := ks_out hNf hR hO hKF m (p + 1) fu
    obtain ⟨ow, y, hC⟩ := hC
    show Rn (g_X11_split_4 N (f_X11_split_4 N fu) z (nI (spF R p)) (nI p) s) _
    have hK := hC.1
    have hw := hC.2.1
    have hB : BK s.1 s.2 z ow 3 R y.1 := hC.2.2.1
    have n3 := hR.1.2.2.2.1.2
    have n4 := hR.1.2.2.2.2.2
    have hp3 : p < nn R 3 := by omega
    have b := spF_b (R := R) p
    unfold g_X11_split_4 f_X11_split_36
    refine r_now hK 3 20 (by decide) ?_
    refine r_gI hK (i := 20) (c := 8) rfl ?_
    rw [hB.2.2.2.1.1]
    refine rn_f (nI_ge hp3 (by omega)) ?_
    refine r_gP hK 0 11 1 3 rfl (by decide) ?_
    refine rn_eq (k_isOut (Or.inl rfl) hR hK hB.2.2.2.1 hp3) ?_
    rw [nI_1]
    by_cases h : R (9426 + 13 * p + 2) = 1
    · rw [if_pos h]
      refine rn_t (by decide) ?_
      have eF : spF R (p + 1) = spF R p := by
        show (spT R p (spF R p)).1 = _
        unfold spT
        rw [if_pos h]
      have q := ih s (by omega) (by omega) hF ⟨ow, y, hC⟩ (fun p' hp' ho => by
        by_cases e : p' = p
        · subst e
          exact absurd h ho
        · exact hS p' (by omega) ho)
      rw [eF] at q
      exact q
    · rw [if_neg h]
      refine rn_f (fun q => q rfl) ?_
      have e : spT R p (spF R p) = tkF R p (nn R 4 - spF R p) (spF R p) 0 := if_neg h
      refine rn_bind (P := TDQ z p (spF R p) (spF R (p + 1)) (spM R p) s.2) ?_ (fun r hr => ?_)
      · unfold f_X11_takeDrives
        refine rn_t (ks_o hK 0 11 rfl) ?_
        exact ktd_loop hR hK hw hB hC.2.2.2.2.2.1 hp3 (nn R 4 - spF R p) (spF R p) 0 N s.2 (by omega) (by omega) (Nat.zero_le _) (by rw [← e]; rfl) LG.rf
      obtain ⟨r1, d1, hl, r2⟩ := hr
      rw [r1]
      have q1 := ci_lg hC hl
      have o237 := hw 237 (by decide) (by decide)
      have o238 := hw 238 (by decide) (by decide)
      have o239 := hw 239 (by decide) (by decide)
      have fd : FD (IX z ow 237 239) d1 r.2 := by
        rw [r2]
        exact ((fd_ix (by decide) o237).mono (fun a ha => ix_mono ha (by decide) (by decide))).tr (((fd_ix (by decide) o238).mono (fun a ha => ix_mono ha (by decide) (by decide))).tr ((fd_ix (by decide) o239).mono (fun a ha => ix_mono ha (by decide) (by decide))))
      have q2 : CI (s.1, r.2) z ow R K u y c := ci_fd (s := (s.1, d1)) q1.1 fd (Or.inr ⟨by decide, by decide⟩)
      have q3 : RFR z (s.1, d1) (s.1, r.2) := RFR.ix (s := (s.1, d1)) hK hw (fd.es) (by decide)
      refine ih (s.1, r.2) (by omega) (by omega) ((hF.tr q1.2).tr q3) ⟨ow, y, q2⟩ (fun p' hp' ho => ?_)
      show r.2.1 (z + 237) p' = _ ∧ r.2.1 (z + 238) p' = _ ∧ r.2.1 (z + 239) p' = _
      rw [r2, wI_n (show z + 237 ≠ z + 239 by omega), wI_n (show z + 237 ≠ z + 238 by omega), wI_s, wI_n (show z + 238 ≠ z + 239 by omega), wI_s, wI_n (show z + 238 ≠ z + 237 by omega), wI_s, wI_n (show z + 239 ≠ z + 238 by omega), wI_n (show z + 239 ≠ z + 237 by omega)]
      by_cases e9 : p' = p
      · subst e9
        rw [va_up_s, va_up_s, va_up_s]
        exact ⟨rfl, rfl, rfl⟩
      · rw [va_up_n e9, va_up_n e9, va_up_n e9, hl.2 _ (by omega) (by omega), hl.2 _ (by omega) (by omega), hl.2 _ (by omega) (by omega)]
        exact hS p' (by omega) ho
theorem k_split (hNf : 2100 ≤ N) (h : CI s z ow R K u y c) (hR : WF R) (hO : WO R) (hKF : WF K) : Rn (f_X11_split N z s) (KO z R K u c (sp_split R) s) := by
  have n3 := hR.1.2.2.2.1.2
  unfold f_X11_split
  refine rn_t (ks_o h.1 0 11 rfl) ?_
  exact ks_out hNf hR hO hKF (nn R 3) 0 N s (by omega) (by omega) RFR.rf ⟨ow, y, h⟩ (fun p' hp' _ => absurd hp' (Nat.not_lt_zero p'))
end SPK
