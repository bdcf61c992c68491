/-! a CHANGE of the class, step by step; melt(), salt() -/
def CJ (s : AS) (z : Nat) (ow : Nat → Nat) (K : Nat → Int32) (y : BL × (Nat → Nat) × Nat × Nat) (c P : Nat) : Prop := KS s.1 z ∧ OWS ow z ∧ BK s.1 s.2 z ow 40 K y.1 ∧ CS s.1 s.2 z ow y.2.1 y.2.2.1 y.2.2.2 ∧ PB s.1 s.2 z ow K ∧ s.2.1 (z + 77) 5 = 0 ∧ s.2.1 (z + 201) 4 = 0 ∧ s.2.1 (z + 201) 7 = 0 ∧ s.2.1 (z + 0) 13 = 1 ∧ s.1.1.2.2 ≤ 75638 + 2 * (P + pot y.1 + smN y.2.1 4 + y.2.2.1 + y.2.2.2) + 5 * c ∧ s.1.1.2.1 ≤ z + 264 + (P + pot y.1 + smN y.2.1 4 + y.2.2.1 + y.2.2.2) + c
section CJS
variable {s s' : AS} {sh : Sh} {d d' d0 : Dt} {z : Nat} {ow ow' : Nat → Nat} {R R' K : Nat → Int32} {u : Bool} {y : YL} {c c' N P P' : Nat} {q q' : BL} {yy : BL × (Nat → Nat) × Nat × Nat}
theorem cj_of (h : CI s z ow R K true y c) (g1 : s.2.1 (z + 77) 5 = 0) (g2 : s.2.1 (z + 201) 4 = 0) (g3 : s.2.1 (z + 201) 7 = 0) : CJ s z ow K y.2 c (pot y.1) := by
  obtain ⟨hK, hw, b1, b2, b3, b4, b5, b6, b7, b8, b9, b10, b11⟩ := h
  exact ⟨hK, hw, b2, b3, b5, g1, g2, g3, b9, b10, b11.1⟩
theorem cj_ci (h : CJ s z ow K yy c (pot q)) (hb : BK s.1 s.2 z ow 3 R q) (hp : PB s.1 s.2 z ow R) : CI s z ow R K true (q, yy) c := by
  obtain ⟨hK, hw, b2, b3, b5, g1, g2, g3, b9, b10, b11⟩ := h
  exact ⟨hK, hw, hb, b2, b3, hp, b5, Or.inl g1, Or.inl g2, Or.inl g3, b9, b10, b11, tln_0 g3⟩
theorem cj_es {lo hi : Nat} (h : CJ s z ow K yy c P) (he : ES (IX z ow lo hi) s ow s' ow') (hx : (1 ≤ lo ∧ hi ≤ 39) ∨ (236 ≤ lo ∧ hi < 242)) (m1 : s'.1.1.2.2 + 2 * P + 5 * c ≤ s.1.1.2.2 + 2 * P' + 5 * c') (m2 : s'.1.1.2.1 + P + c ≤ s.1.1.2.1 + P' + c') : CJ s' z ow' K yy c' P' ∧ RFR z s s' := by
  obtain ⟨hK, hw, b2, b3, b5, g1, g2, g3, b9, b10, b11⟩ := h
  have r0 := es_row hK hw he (i := 0) (by decide) (by omega)
  have r77 := es_row hK hw he (i := 77) (by decide) (by omega)
  have r201 := es_row hK hw he (i := 201) (by decide) (by omega)
  exact ⟨⟨KS.es hK he, OWS.es hw hK he, bk_ix b2 (Or.inr rfl) hK hw he (by omega), cs_ix b3 hK hw he (by omega), pb_ix b5 hK hw he (by omega) (by omega), by rw [r77.1]; exact g1, by rw [r201.1]; exact g2, by rw [r201.1]; exact g3, by rw [r0.1]; exact b9, by omega, by omega⟩, RFR.ix hK hw he (by omega)⟩
/-- the reference over its PLOUGHS -/
theorem rdpl {β : Type} {Q : β → Prop} {g : Int32 → Option β} {x : Int32} {p : Nat} (hK : KS sh z) (hA : AG (d.1 (z + 243)) R) (k : Nat) (hp : p < 12) (hk : k < 13) (hx : x = nI k) (kk : Rn (g (R (9426 + 13 * p + k))) Q) : Rn ((gP sh (z + 242) 12 0).bind fun v1 => (f_X12_pl N sh (z + 242) (nI p) d).bind fun v2 => (aT 0 sh d v1 (v2 + x)).bind g) Q := by
  subst hx
  refine r_gP hK 242 12 0 243 rfl (by decide) ?_
  refine rn_eq (m_pl hK) ?_
  refine rn_eq (q_aT (ks_a hK 243 0 15642 rfl) (9426 + 13 * p + k) (ix_pl p k) (by omega) (by decide)) ?_
  rw [hA _ (by omega)]
  exact kk
theorem wrpl {β : Type} {Q : β → Prop} {g : Dt → Option β} {x v : Int32} {p : Nat} (hK : KS sh z) (k : Nat) (hp : p < 12) (hk : k < 13) (hx : x = nI k) (kk : Rn (g (wI d (z + 243) (9426 + 13 * p + k) v)) Q) : Rn ((gP sh (z + 242) 12 0).bind fun v1 => (f_X12_pl N sh (z + 242) (nI p) d).bind fun v2 => (sI sh d v1 (v2 + x) v).bind g) Q := by
  subst hx
  refine r_gP hK 242 12 0 243 rfl (by decide) ?_
  refine rn_eq (m_pl hK) ?_
  exact rn_eq (q_sI (ks_a hK 243 0 15642 rfl) (9426 + 13 * p + k) (ix_pl p k) (by omega) (by decide)) kk
theorem m_kindOf {p : Nat} (hK : KS sh z) (hA : AG (d.1 (z + 243)) R) (hp : p < 12) : f_X12_kindOf N sh (z + 242) (nI p) d = some (R (9426 + 13 * p)) := by
  refine rn_val ?_
  unfold f_X12_kindOf
  refine rn_t (ks_o hK 242 12 rfl) ?_
  exact rdpl hK hA 0 hp (by decide) rfl (rn_some rfl)
/-- the class over its PLOUGHS -/
theorem k_isOut {p : Nat} (hb : bck 3) (hR : WF R) (hK : KS sh z) {L : Nat → Nat} (hT : TB sh d z ow 20 9 (nn R 3) (vP R) L) (hp : p < nn R 3) : f_X1_isOut N sh (z + 3) (nI p) d = some (if R (9426 + 13 * p + 2) = 1 then 1 else 0) := by
  have w := hR.2.2.2.2.1 p hp
  refine rn_val ?_
  unfold f_X1_isOut f_X1_isOut_19
  refine rn_t (ks_o hK 3 1 rfl) ?_
  refine r_gP hK 3 1 3 20 rfl (by decide) ?_
  refine rn_eq (tb_get (o := 20) (nc := 9) (c := 6) hK (by decide) hT rfl hp rfl (by decide)) ?_
  have ev : vP R 6 p = if R (9426 + 13 * p + 2) = 1 then -1 else R (9426 + 13 * p) := rfl
  rw [ev]
  by_cases h1 : R (9426 + 13 * p + 2) = 1
  · rw [if_pos h1, if_pos h1]
    exact rn_f (fun q => q rfl) ⟨1, rfl, rfl⟩
  · rw [if_neg h1, if_neg h1]
    refine rn_t (fun e => ?_) ⟨0, rfl, rfl⟩
    rw [w.1.1] at e
    exact nI_m1 (by omega) e
theorem k_body {p : Nat} (hK : KS sh z) (hB : PB sh d z ow R) (hp : p < nn R 3) (hN : WN R) : ∃ a, aQ 6 sh d (z + 235) (nI p) = some a ∧ iOf sh a 7 = some (if nn R (9426 + 13 * p) = 2 then 1 else 0) ∧ iOf sh a 3 = some (if nn R (9426 + 13 * p) = 4 then 1 else 0) ∧ ((nn R (9426 + 13 * p) ≤ 3 ∧ BO sh d z ow a (nn R (9426 + 13 * p))) ∨ (nn R (9426 + 13 * p) = 4 ∧ BP sh d z ow a (nn R (9426 + 13 * nn R (9426 + 13 * p + 3))) (nn R (9426 + 13 * nn R (9426 + 13 * p + 4))))) := by
  obtain ⟨a, h1, h2⟩ := hB p hp
  have n3 := hN.2.2.2.1.2
  refine ⟨a, q_aQ (ks_a hK 235 6 12 rfl) p a rfl (by omega) (by decide) h1, ?_, ?_, h2⟩
  · unfold iOf
    rcases h2 with ⟨k1, b1, b2, b3, -⟩ | ⟨k1, b1, b2, b3, -⟩
    · have hk : nn R (9426 + 13 * p) = 0 ∨ nn R (9426 + 13 * p) = 1 ∨ nn R (9426 + 13 * p) = 2 ∨ nn R (9426 + 13 * p) = 3 := by omega
      rcases hk with e | e | e | e <;> rw [e] at b3 ⊢ <;> simp only [kcl] at b3 <;> simp at b3 <;> rw [if_pos ⟨b1, b2, by omega⟩, b3] <;> rfl
    · rw [if_pos ⟨b1, b2, by omega⟩, b3, k1]
      rfl
  · unfold iOf
    rcases h2 with ⟨k1, b1, b2, b3, -⟩ | ⟨k1, b1, b2, b3, -⟩
    · have hk : nn R (9426 + 13 * p) = 0 ∨ nn R (9426 + 13 * p) = 1 ∨ nn R (9426 + 13 * p) = 2 ∨ nn R (9426 + 13 * p) = 3 := by omega
      rcases hk with e | e | e | e <;> rw [e] at b3 ⊢ <;> simp only [kcl] at b3 <;> simp at b3 <;> rw [if_pos ⟨b1, b2, by omega⟩, b3] <;> rfl
    · rw [if_pos ⟨b1, b2, by omega⟩, b3, k1]
      rfl
def thin (v m : Int32) : Int32 := if 0 ≤ v - m then v - m else 0
theorem thin_max {v m : Int32} : o_max (0 : Int32) (v - m) = thin v m := by
  unfold thin o_max
  by_cases h : 0 < v - m
  · rw [if_pos h, if_pos (Int32.le_of_lt h)]
  · rw [if_neg h]
    by_cases h2 : 0 ≤ v - m
    · rw [if_pos h2]
      exact Int32.le_antisymm h2 (Int32.not_lt.mp h)
    · rw [if_neg h2]
theorem k_lessDrift {i : Nat} {m : Int32} (hK : KS sh z) (hw : OWS ow z) (hN : WN R) (h : BK sh d z ow 3 R q) (hi : i < nn R 1) : Rn (f_X1_lessDrift N sh (z + 3) (nI i) m d) (fun d' => FD (IX z ow 4 5) d d' ∧ BK sh d' z ow 3 (va_up R (16 + 9 * i + 0) (thin (R (16 + 9 * i + 0)) m)) q) := by
  have ht : tck 4 9 = true := by decide
  unfold f_X1_lessDrift
  refine rn_t (ks_o hK 3 1 rfl) ?_
  refine r_gP hK 3 1 1 4 rfl (by decide) ?_
  refine r_gP hK 3 1 1 4 rfl (by decide) ?_
  refine rn_eq (tb_get (o := 4) (nc := 9) (c := 0) hK ht h.2.1 rfl hi rfl (by decide)) ?_
  have ev : vS R 0 i = R (16 + 9 * i + 0) := rfl
  rw [ev, thin_max]
  refine rn_bind (tb_put (o := 4) (nc := 9) (c := 0) hK hw ht h.2.1 rfl hi rfl (by decide)) (fun d1 hd => rn_some ?_)
  exact ⟨hd.2.mono (fun a ha => tx_ix ht hw ha), bk_upS (Or.inl rfl) hK hw hN h hi (by decide) hd.1 hd.2⟩
theorem m_thins {i : Nat} {m : Int32} (hK : KS sh z) (hN : WN R) (hI : RI d z R K u) (hi : i < nn R 1) : Rn (f_X12_thins N sh (z + 242) (nI i) m d) (fun d' => MFR z d d' ∧ RI d' z (va_up R (16 + 9 * i + 0) (thin (R (16 + 9 * i + 0)) m)) K u) := by
  have n1 := hN.2.1.2
  have ha := ks_a hK 243 0 15642 rfl
  unfold f_X12_thins f_X12_thins_35
  refine rn_t (ks_o hK 242 12 rfl) ?_
  refine rds hK hI.1 0 (by omega) (by decide) rfl ?_
  refine r_gP hK 242 12 0 243 rfl (by decide) ?_
  refine rn_eq (m_st hK) ?_
  unfold thin
  refine rn_ite (fun h1 => ?_) (fun h1 => ?_)
  · rw [if_pos h1]
    refine rn_eq (q_sI ha (16 + 9 * i + 0) (ix_st i 0) (by omega) (by decide)) (rn_some ?_)
    exact ⟨MFR.wI (by decide) (by decide), ri_cellG hI hN (by omega) (fun s k _ q1 q2 => by omega)⟩
  · rw [if_neg h1]
    refine rn_eq (q_sI ha (16 + 9 * i + 0) (ix_st i 0) (by omega) (by decide)) (rn_some ?_)
    exact ⟨MFR.wI (by decide) (by decide), ri_cellG hI hN (by omega) (fun s k _ q1 q2 => by omega)⟩
/-- all STREETS thaw -/
def meF (R : Nat → Int32) (m : Int32) : Nat → Nat → Int32
  | 0 => R
  | k + 1 => va_up (meF R m k) (16 + 9 * k + 0) (thin (meF R m k (16 + 9 * k + 0)) m)
theorem meF_wn {m : Int32} (h : WN R) : ∀ k, WN (meF R m k)
  | 0 => h
  | k + 1 => wn_up (meF_wn h k) (by omega)
theorem meF_out {m : Int32} {j : Nat} : ∀ k, (∀ i, i < k → j ≠ 16 + 9 * i) → meF R m k j = R j
  | 0, _ => rfl
  | k + 1, h => by
    show va_up (meF R m k) (16 + 9 * k) _ j = R j
    rw [va_up_n (h k (Nat.lt_succ_self k))]
    exact meF_out k (fun i hi => h i (by omega))
theorem meF_nn {m : Int32} {j k : Nat} (h : ∀ i, i < k → j ≠ 16 + 9 * i) : nn (meF R m k) j = nn R j := by
  unfold nn
  rw [meF_out k h]
def sp_melt (R : Nat → Int32) (t s : Int32) : Int32 × Option (Nat → Int32) := if t < 0 ∨ s < 0 then (-2, none) else if s = 0 then (-8, none) else (ml t s, some (meF R ((3 : Int32) * ml t s) (nn R 1)))
theorem m_melt_loop {b v : Int32} (hb : b = (3 : Int32) * v) (hK : KS sh z) (hN : WN R) : ∀ (m k fu : Nat) (d : Dt), k + m = nn R 1 → m < fu → MFR z d0 d → RI d z (meF R b k) R true → Rn (f_X12_melt_61 N sh fu (z + 242) v (nI k) d) (RO z R K u (v, some (meF R b (nn R 1))) d0)
  | 0, k, fu, d, hk, hf, hM, hI => by
    obtain ⟨fu, rfl⟩ : ∃ q, fu = q + 1 := ⟨fu - 1, by omega⟩
    show Rn (g_X12_melt_61 N sh (f_X12_melt_61 N sh fu) (z + 242) v (nI k) d) _
    have n1 := hN.2.1
    unfold g_X12_melt_61 f_X12_melt_88
    refine rdg hK hI.1 1 rfl (by decide) ?_
    rw [meF_out k (fun i _ => by omega), n1.1]
    refine rn_t ((nI_leI (by omega) (by omega)).mpr (by omega)) ?_
    have ek : k = nn R 1 := by omega
    subst ek
    exact ro_done hK hI hM rfl
  | m + 1, k, fu, d, hk, hf, hM, hI => by
    obtain ⟨fu, rfl⟩ : ∃ q, fu = q + 1 := ⟨fu - 1, by omega⟩
    have ih := m_melt_loop hb hK hN m (k + 1) fu
    show Rn (g_X12_melt_61 N sh (f_X12_melt_61 N sh fu) (z + 242) v (nI k) d) _
    have n1 := hN.2.1
    unfold g_X12_melt_61
    refine rdg hK hI.1 1 rfl (by decide) ?_
    rw [meF_out k (fun i _ => by omega), n1.1]
    refine rn_f (nI_ge (by omega) (by omega)) ?_
    refine rn_bind (m_thins hK (meF_wn hN k) hI (by rw [meF_nn (fun i _ => by omega)]; omega)) (fun d1 hd => ?_)
    rw [nI_1]
    refine ih _ (by omega) (by omega) (hM.tr hd.1) ?_
    rw [hb]
    have r := hd.2
    rw [hb] at r
    exact r
theorem cap_ml {w : Int32} : o_min (100000 : Int32) w = if w < 100000 then w else 100000 := rfl
theorem les_ml {w : Int32} : (if (100000 : Int32) ≤ w then (100000 : Int32) else w) = if w < 100000 then w else 100000 := by
  by_cases h : w < 100000
  · rw [if_pos h, if_neg (Int32.not_le.mpr h)]
  · rw [if_neg h, if_pos (Int32.not_lt.mp h)]
theorem m_whole {w : UInt32} (hK : KS sh z) : f_X12_whole N sh (z + 242) w d = some (if FP.f2i w < 100000 then FP.f2i w else 100000) := by
  refine rn_val ?_
  unfold f_X12_whole
  refine rn_t (ks_o hK 242 12 rfl) ?_
  refine rn_eq m_lesser (rn_some les_ml)
theorem m_melt {t s : Int32} (hNf : 15642 < N) (hK : KS sh z) (h : RI d z R K u) (hR : WF R) : Rn (f_X12_melt N sh (z + 242) t s d) (RO z R K u (sp_melt R t s) d) := by
  have hN := hR.1
  have n1 := hN.2.1.2
  unfold f_X12_melt f_X12_melt_8
  refine rn_t (ks_o hK 242 12 rfl) ?_
  by_cases ht : t < 0
  · refine rn_t ht ?_
    exact ro_refuses hK h (if_pos (Or.inl ht))
  refine rn_f ht ?_
  by_cases hs : s < 0
  · refine rn_f (Int32.not_le.mpr hs) ?_
    exact ro_refuses hK h (if_pos (Or.inr hs))
  refine rn_t (Int32.not_lt.mp hs) ?_
  rw [show sp_melt R t s = _ from if_neg (fun q => q.elim ht hs)]
  by_cases h0 : s = 0
  · rw [if_pos h0]
    refine rn_f (fun q => q h0) ?_
    exact ro_refuses hK h rfl
  rw [if_neg h0]
  refine rn_t h0 ?_
  obtain ⟨w1, w2, w3, w4, w5, w6, w7⟩ := ff_melt ht hs h0
  refine rn_bind (ri_keeps h hK hNf) (fun d1 hd => ?_)
  obtain ⟨x1, x2⟩ := hd
  refine rn_eq (v := ml_a t) (if_pos w1) ?_
  refine rn_eq (v := ml_a s) (if_pos w2) ?_
  refine rn_eq (v := FP.frem (ml_a t) (ml_a s)) (if_pos w5) ?_
  refine rn_eq (v := FP.fsub (ml_a t) (FP.frem (ml_a t) (ml_a s))) (if_pos w6) ?_
  refine rn_eq (v := FP.fdiv (FP.fsub (ml_a t) (FP.frem (ml_a t) (ml_a s))) (ml_a s)) (if_pos w7) ?_
  refine rn_eq (m_whole hK) ?_
  exact m_melt_loop (v := ml t s) rfl hK hN (nn R 1) 0 N d1 (by omega) (by omega) x2 x1
theorem k_melt_loop {b v : Int32} {s0 s1 : AS} {y1 : YL} (hb : b = (3 : Int32) * v) (hN : WN R) (c1 : CI s1 z ow R R true y1 c) (f1 : RFR z s0 s1) (g1 : s1.2.1 (z + 77) 5 = 0) (g2 : s1.2.1 (z + 201) 4 = 0) (g3 : s1.2.1 (z + 201) 7 = 0) : ∀ (m k fu : Nat) (d : Dt), k + m = nn R 1 → m < fu → FD (IX z ow 3 39) s1.2 d → BK s1.1 d z ow 3 (meF R b k) y1.1 → Rn (f_X11_melt_39 N fu z v (nI k) (s1.1, d)) (KO z R K u c (v, some (meF R b (nn R 1))) s0)
  | 0, k, fu, d, hk, hf, hF, hB => by
    obtain ⟨fu, rfl⟩ : ∃ q, fu = q + 1 := ⟨fu - 1, by omega⟩
    show Rn (g_X11_melt_39 N (f_X11_melt_39 N fu) z v (nI k) (s1.1, d)) _
    have hK := c1.1
    have n1 := hN.2.1
    unfold g_X11_melt_39 f_X11_melt_72
    refine r_now hK 1 4 (by decide) ?_
    refine r_gI hK (i := 4) (c := 8) rfl ?_
    rw [hB.2.1.1, meF_nn (fun i _ => by omega)]
    refine rn_t ((nI_leI (by omega) (by omega)).mpr (by omega)) ?_
    have ek : k = nn R 1 := by omega
    subst ek
    have qn := ci_new c1 g1 g2 g3 hF hB (pb_congr c1.2.2.2.2.2.1 (meF_out _ (fun i hi => by omega)) (fun j hj => meF_out _ (fun i hi => by omega)))
    refine rn_bind (k_answer hK) (fun r hr => rn_some ?_)
    have q3 := ci_lg qn.1 hr.2
    exact ⟨hr.1, (f1.tr qn.2).tr q3.2, ow, _, q3.1⟩
  | m + 1, k, fu, d, hk, hf, hF, hB => by
    obtain ⟨fu, rfl⟩ : ∃ q, fu = q + 1 := ⟨fu - 1, by omega⟩
    have ih := k_melt_loop hb hN c1 f1 g1 g2 g3 m (k + 1) fu
    show Rn (g_X11_melt_39 N (f_X11_melt_39 N fu) z v (nI k) (s1.1, d)) _
    have hK := c1.1
    have n1 := hN.2.1
    unfold g_X11_melt_39
    refine r_now hK 1 4 (by decide) ?_
    refine r_gI hK (i := 4) (c := 8) rfl ?_
    rw [hB.2.1.1, meF_nn (fun i _ => by omega)]
    refine rn_f (nI_ge (by omega) (by omega)) ?_
    rw [← z0 (z := z)]
    refine r_gP hK 0 11 1 3 rfl (by decide) ?_
    refine rn_bind (k_lessDrift hK c1.2.1 (meF_wn hN k) hB (by rw [meF_nn (fun i _ => by omega)]; omega)) (fun d1 hd => ?_)
    rw [nI_1]
    refine ih _ (by omega) (by omega) (hF.tr (hd.1.mono (fun a ha => ix_mono ha (by omega) (by omega)))) ?_
    rw [hb]
    have r := hd.2
    rw [hb] at r
    exact r
theorem k_melt {t x : Int32} (hNf : 300 ≤ N) (h : CI s z ow R K u y c) (hR : WF R) (hKF : WF K) : Rn (f_X11_melt N z t x s) (KO z R K u c (sp_melt R t x) s) := by
  have hK := h.1
  have hN := hR.1
  have n1 := hN.2.1.2
  have bad : t < 0 ∨ x < 0 → Rn (f_X11_melt_8 N z s) (KO z R K u c (sp_melt R t x) s) := fun hb => by
    rw [show sp_melt R t x = _ from if_pos hb]
    unfold f_X11_melt_8
    refine rn_bind (k_refuse hK) (fun r hr => rn_some ?_)
    exact ko_lg h hr rfl
  unfold f_X11_melt
  refine rn_t (ks_o hK 0 11 rfl) ?_
  refine rn_ite (fun ht => bad (Or.inl ht)) (fun ht => ?_)
  refine rn_ite (fun hs => ?_) (fun hs => bad (Or.inr (Int32.not_le.mp hs)))
  have hs : ¬ x < 0 := Int32.not_lt.mpr hs
  rw [show sp_melt R t x = _ from if_neg (fun q => q.elim ht hs)]
  by_cases h0 : x = 0
  · rw [if_pos h0]
    refine rn_f (fun q => q h0) ?_
    refine rn_bind (k_refuse hK) (fun r hr => rn_some ?_)
    exact ko_lg h hr rfl
  rw [if_neg h0]
  refine rn_t h0 ?_
  obtain ⟨w1, w2, w3, w4, w5, w6, w7⟩ := ff_melt ht hs h0
  refine rn_eq (v := ml t x) ?_ ?_
  · refine rn_val ?_
    unfold f_X11_wholeIn
    have hge : (0 : Int32) ≤ lg_cmp (FP.f2l (FP.i2f x)) 1 := by
      unfold lg_cmp
      split
      · decide
      · split
        · decide
        · rename_i h1 h2
          exact absurd (Int64.le_antisymm (Int64.not_lt.mp h1) w3) h2
    refine rn_t hge ?_
    refine rn_eq (v := ml_R t x) (if_neg (fun e => ?_)) ?_
    · rw [e] at w3
      exact absurd w3 (by decide)
    refine rn_eq (v := FP.frem (ml_a t) (ml_a x)) ?_ ?_
    · unfold o_n32
      rw [w4]
      exact if_pos w5
    refine rn_eq (v := ml_a t) (if_pos w1) ?_
    refine rn_eq (v := ml_a x) (if_pos w2) ?_
    refine rn_eq (v := FP.fsub (ml_a t) (FP.frem (ml_a t) (ml_a x))) (if_pos w6) ?_
    refine rn_eq (v := FP.fdiv (FP.fsub (ml_a t) (FP.frem (ml_a t) (ml_a x))) (ml_a x)) (if_pos w7) ?_
    exact rn_some rfl
  refine rn_bind (ci_change (by omega) h hR.1 hR.2.1 hKF.1) (fun s1 hs1 => ?_)
  obtain ⟨f1, g1, g2, g3, ow1, y1, -, c1⟩ := hs1
  unfold f_X11_melt_36
  exact k_melt_loop (v := ml t x) rfl hN c1 f1 g1 g2 g3 (nn R 1) 0 N s1.2 (by omega) (by omega) FD.rf c1.2.2.1
end CJS
