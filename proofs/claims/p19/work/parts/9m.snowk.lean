/-! snow() of the class -/
section SNK
variable {s s' s0 s1 : AS} {sh : Sh} {d d' d0 : Dt} {z : Nat} {ow ow' : Nat → Nat} {R R' Rc K : Nat → Int32} {u : Bool} {y : YL} {c N g t hh : Nat} {q q' : BL} {L L4 : Nat → Nat}
theorem up_cm {f : Nat → Int32} {a b : Nat} {x y : Int32} (h : a ≠ b) : va_up (va_up f a x) b y = va_up (va_up f b y) a x := funext fun j => by
  by_cases ha : j = a
  · subst ha
    rw [va_up_n h, va_up_s, va_up_s]
  · by_cases hb : j = b
    · subst hb
      rw [va_up_s, va_up_n ha, va_up_s]
    · rw [va_up_n hb, va_up_n ha, va_up_n ha, va_up_n hb]
theorem geq_edge (hg : GEQ R R') {s u v : Nat} : edge R' s u v ↔ edge R s u v := ⟨fun h => hg.sy.edge h, fun h => hg.edge h⟩
theorem wy_geq (h : WY d z R) (hg : GEQ R R') : WY d z R' := by
  rcases h with h | ⟨h1, h2, h3⟩
  · exact Or.inl h
  have sl : ∀ s, s < nn R 1 → sln R' s = sln R s := fun s hs => by
    unfold sln nn
    rw [hg.2.2 s 6 hs (by decide) (by decide)]
  refine Or.inr ⟨h1, ⟨fun u v hu hv => ?_, h2.2⟩, fun v hv hb u hu => hg.dOK (h3 v hv hb u hu)⟩
  obtain ⟨a, b⟩ := h2.1 u v hu hv
  refine ⟨?_, b.trans (exists_congr (fun s => (geq_edge hg).symm))⟩
  rcases a with ⟨a1, a2⟩ | ⟨s, a1, a2, a3⟩
  · exact Or.inl ⟨a1, fun s hs => a2 s ((geq_edge hg).mp hs)⟩
  · refine Or.inr ⟨s, a1, (geq_edge hg).mpr a2, fun s' hs' => ?_⟩
    have e := (geq_edge hg).mp hs'
    rw [sl s a2.1, sl s' e.1]
    exact a3 s' e
/-- another R with the same map: the ways stay -/
theorem ci_newG (h : CI s z ow R K true y c) (g2 : s.2.1 (z + 201) 4 = 0) (g3 : s.2.1 (z + 201) 7 = 0) (hd : FD (IX z ow 3 39) s.2 d') (hb : BK s.1 d' z ow 3 R' y.1) (hp : PB s.1 s.2 z ow R') (hg : GEQ R R') : CI (s.1, d') z ow R' K true y c ∧ RFR z s (s.1, d') := by
  obtain ⟨hK, hw, b1, b2, b3, b4, b5, b6, b7, b8, b9, b10, b11⟩ := h
  have he : ES (IX z ow 3 39) s ow (s.1, d') ow := FD.es (sh := s.1) (d := s.2) hd
  have r0 := es_row hK hw he (i := 0) (by decide) (by omega)
  have r201 := es_row hK hw he (i := 201) (by decide) (by omega)
  exact ⟨⟨hK, hw, hb, bk_ix b2 (Or.inr rfl) hK hw he (by omega), cs_ix b3 hK hw he (by omega), pb_ix hp hK hw he (by omega) (by omega), pb_ix b5 hK hw he (by omega) (by omega), wy_geq (wy_ix b6 hK hw he (by omega)) hg, Or.inl (by rw [r201.1]; exact g2), Or.inl (by rw [r201.1]; exact g3), by rw [r0.1]; exact b9, b10, b11.1, tln_0 (by rw [r201.1]; exact g3)⟩, RFR.ix hK hw he (by omega)⟩
def edj (R : Nat → Int32) (c a : Nat) : Prop := ∃ s, edge R s c a ∨ edge R s a c
theorem hop_ne (hH : HopOK d z R) (hN : WN R) {c a : Nat} (hc : c < 60) (ha : a < 60) : d.1 (z + (79 + c)) a ≠ -1 ↔ ∃ s, edge R s c a := by
  have n1 := hN.2.1.2
  rcases (hH.1 c a hc ha).1 with ⟨h1, h2⟩ | ⟨s, h1, h2, -⟩
  · exact ⟨fun q => absurd h1 q, fun ⟨s, hs⟩ => absurd hs (h2 s)⟩
  · refine ⟨fun _ => ⟨s, h2⟩, fun _ => ?_⟩
    rw [h1]
    have := h2.1
    exact nI_m1 (by omega)
theorem k_joined (hK : KS sh z) (hS : SPN d z) (hH : HopOK d z R) (hN : WN R) {c a : Nat} (hc : c < 60) (ha : a < 60) : Rn (f_X10_areJoined N sh (z + 77) (nI c) (nI a) d) (fun r => (r = 0 ∧ ¬ edj R c a) ∨ (r = 1 ∧ edj R c a)) := by
  unfold f_X10_areJoined f_X10_areJoined_25 f_X10_areJoined_54 f_X10_areJoined_58 f_X10_areJoined_59
  refine rn_t (ks_o hK 77 10 rfl) ?_
  refine rn_f (nI_pos (by omega)) ?_
  refine rn_f (nI_ge (b := 60) hc (by decide)) ?_
  refine rn_f (nI_pos (by omega)) ?_
  refine rn_f (nI_ge (b := 60) ha (by decide)) ?_
  refine rn_f (by decide) ?_
  have e1 := hop_ne hH hN hc ha
  have e2 := hop_ne hH hN ha hc
  refine r_hop hK hS hc ha ?_
  refine rn_ite (fun h1 => ?_) (fun h1 => ?_)
  · obtain ⟨s, hs⟩ := e1.mp h1
    exact ⟨1, rfl, Or.inr ⟨rfl, s, Or.inl hs⟩⟩
  refine r_hop hK hS ha hc ?_
  refine rn_ite (fun h2 => ?_) (fun h2 => ?_)
  · refine ⟨0, rfl, Or.inl ⟨rfl, fun ⟨s, hs⟩ => ?_⟩⟩
    rcases hs with hs | hs
    · exact h1 (e1.mpr ⟨s, hs⟩)
    · exact (e2.mpr ⟨s, hs⟩) h2
  · obtain ⟨s, hs⟩ := e2.mp h2
    exact ⟨1, rfl, Or.inr ⟨rfl, s, Or.inr hs⟩⟩
theorem jn_edj {x a b : Nat} (hW : WS R) (hN : WN R) : jn R (nI x) (nI a) (nI b) ↔ edj R x a ∨ edj R x b := by
  constructor
  · rintro ⟨t, h1, h2, h3 | h3⟩
    · rcases h3 with ⟨h3, h4 | h4⟩
      · exact Or.inl ⟨t, Or.inl ⟨h1, h2, Or.inl ⟨h3, h4⟩⟩⟩
      · exact Or.inr ⟨t, Or.inl ⟨h1, h2, Or.inl ⟨h3, h4⟩⟩⟩
    · rcases h3 with ⟨h3, h4 | h4⟩
      · exact Or.inl ⟨t, Or.inr ⟨h1, h2, Or.inl ⟨h4, h3⟩⟩⟩
      · exact Or.inr ⟨t, Or.inr ⟨h1, h2, Or.inl ⟨h4, h3⟩⟩⟩
  · have one : ∀ e, edj R x e → ∃ t, t < nn R 1 ∧ R (16 + 9 * t + 4) = 0 ∧ ((R (16 + 9 * t + 7) = nI x ∧ R (16 + 9 * t + 8) = nI e) ∨ (R (16 + 9 * t + 8) = nI x ∧ R (16 + 9 * t + 7) = nI e)) := fun e => by
      rintro ⟨t, h | h⟩
      · obtain ⟨h1, h2, h3 | h3⟩ := h
        · exact ⟨t, h1, h2, Or.inl h3⟩
        · exact ⟨t, h1, h2, Or.inr h3.2⟩
      · obtain ⟨h1, h2, h3 | h3⟩ := h
        · exact ⟨t, h1, h2, Or.inr ⟨h3.2, h3.1⟩⟩
        · exact ⟨t, h1, h2, Or.inl ⟨h3.2.2, h3.2.1⟩⟩
    rintro (h | h)
    · obtain ⟨t, h1, h2, h3 | h3⟩ := one a h
      · exact ⟨t, h1, h2, Or.inl ⟨h3.1, Or.inl h3.2⟩⟩
      · exact ⟨t, h1, h2, Or.inr ⟨h3.1, Or.inl h3.2⟩⟩
    · obtain ⟨t, h1, h2, h3 | h3⟩ := one b h
      · exact ⟨t, h1, h2, Or.inl ⟨h3.1, Or.inr h3.2⟩⟩
      · exact ⟨t, h1, h2, Or.inr ⟨h3.1, Or.inr h3.2⟩⟩
theorem k_near (hK : KS sh z) (hR : WF R) (hS : SPN d z) (hH : HopOK d z R) (hM : smp R Rc) (hB : BK sh d z ow 3 Rc q) (hg : g < nn R 2) (ht : t < nn R 1) : f_X11_nearness N sh z (nI g) (nI t) d = some (nI (kn R g t)) := by
  have n0 := hR.1.1.2
  obtain ⟨x, x1, x2⟩ := (hR.2.2.2.1.1 g hg).1
  obtain ⟨a, b, a1, a2, a3, a4, a5⟩ := (hR.2.2.1 t ht).1
  have m1 : nn Rc 1 = nn R 1 := hM.cn (fun t' _ => by omega)
  have m2 : nn Rc 2 = nn R 2 := hM.cn (fun t' _ => by omega)
  refine rn_val ?_
  unfold f_X11_nearness f_X11_nearness_55 f_X11_nearness_83 f_X11_nearness_88 kn
  refine rn_t (ks_o hK 0 11 rfl) ?_
  refine r_now hK 2 15 (by decide) ?_
  refine rn_eq (tb_get (o := 15) (nc := 3) (c := 0) hK (by decide) hB.2.2.1 rfl (by rw [m2]; exact hg) rfl (by decide)) ?_
  have e0 : vG Rc 0 g = nI x := (hM (1366 + 3 * g + 0) (fun t' _ => by omega)).trans x2
  refine r_now hK 1 4 (by decide) ?_
  refine rn_eq (tb_get (o := 4) (nc := 9) (c := 7) hK (by decide) hB.2.1 rfl (by rw [m1]; exact ht) rfl (by decide)) ?_
  have e7 : vS Rc 7 t = nI a := (hM.st (by decide) (by decide)).trans a4
  refine r_now hK 1 4 (by decide) ?_
  refine rn_eq (tb_get (o := 4) (nc := 9) (c := 8) hK (by decide) hB.2.1 rfl (by rw [m1]; exact ht) rfl (by decide)) ?_
  have e8 : vS Rc 8 t = nI b := (hM.st (by decide) (by decide)).trans a5
  rw [e0, e7, e8, x2, a4, a5]
  refine rn_ite (fun h1 => ?_) (fun h1 => ?_)
  · rw [if_pos (Or.inl h1)]
    exact rn_some rfl
  refine rn_ite (fun h2 => ?_) (fun h2 => ?_)
  · rw [if_neg (fun q => q.elim h1 h2)]
    have je := jn_edj (x := x) (a := a) (b := b) hR.2.2.1 hR.1
    rw [← z0 (z := z)]
    refine r_gP hK 0 11 3 77 rfl (by decide) ?_
    refine rn_bind (k_joined hK hS hH hR.1 (by omega) (by omega)) (fun r hr => ?_)
    rcases hr with ⟨rfl, h3⟩ | ⟨rfl, h3⟩
    · refine rn_f (fun q => q rfl) ?_
      refine r_gP hK 0 11 3 77 rfl (by decide) ?_
      refine rn_bind (k_joined hK hS hH hR.1 (by omega) (by omega)) (fun r hr => ?_)
      rcases hr with ⟨rfl, h4⟩ | ⟨rfl, h4⟩
      · rw [ite_n (fun q => (je.mp q).elim h3 h4)]
        exact rn_t rfl (rn_some rfl)
      · rw [ite_p (je.mpr (Or.inr h4))]
        exact rn_f (by decide) (rn_some rfl)
    · rw [ite_p (je.mpr (Or.inl h3))]
      exact rn_t (by decide) (rn_some rfl)
  · rw [if_pos (Or.inr (Decidable.of_not_not h2))]
    exact rn_some rfl
/-- what the gauges told, in the class -/
def HTD (d : Dt) (z : Nat) (R : Nat → Int32) (hh n : Nat) : Prop := ∀ g, g < n → d.2.2.1 (z + 236) g = if tl R hh g then gx R g hh else 3212836864
theorem kfl_loop {Q : Int32 × Dt → Prop} (hK : KS sh z) (hR : WF R) (hS : SPN d z) (hH : HopOK d z R) (hM : smp R Rc) (hB : BK sh d z ow 3 Rc q) (ht : t < nn R 1) (hT : HTD d z R hh (nn R 2)) (hk : Rn (f_X11_fallOn_78 N sh z (nI t) (snA R hh t (nn R 2)).1 (wt (snA R hh t (nn R 2)).2) d) Q) : ∀ (m g fu : Nat), g + m = nn R 2 → m < fu → Rn (f_X11_fallOn_7 N sh fu z (nI t) (snA R hh t g).1 (wt (snA R hh t g).2) (nI g) d) Q
  | 0, g, fu, hg, hf => by
    obtain ⟨fu, rfl⟩ : ∃ q, fu = q + 1 := ⟨fu - 1, by omega⟩
    show Rn (g_X11_fallOn_7 N sh (f_X11_fallOn_7 N sh fu) z (nI t) (snA R hh t g).1 (wt (snA R hh t g).2) (nI g) d) _
    have n2 := hR.1.2.2.1.2
    unfold g_X11_fallOn_7
    refine r_now hK 2 15 (by decide) ?_
    refine r_gI hK (i := 15) (c := 8) rfl ?_
    rw [hB.2.2.1.1, hM.cn (fun t' _ => by omega)]
    refine rn_t (nI_le (by omega) (by omega)) ?_
    have e : g = nn R 2 := by omega
    subst e
    exact hk
  | m + 1, g, fu, hg, hf => by
    obtain ⟨fu, rfl⟩ : ∃ q, fu = q + 1 := ⟨fu - 1, by omega⟩
    have ih := kfl_loop hK hR hS hH hM hB ht hT hk m (g + 1) fu
    show Rn (g_X11_fallOn_7 N sh (f_X11_fallOn_7 N sh fu) z (nI t) (snA R hh t g).1 (wt (snA R hh t g).2) (nI g) d) _
    have n2 := hR.1.2.2.1.2
    have h236 := ks_a hK 236 2 20 rfl
    have e7 : ∀ {β : Type} {Q : β → Prop} {k : Nat → Option β}, Rn (k (z + 236)) Q → Rn ((gP sh z 11 7).bind k) Q := fun h => by
      rw [← z0 (z := z)]
      exact r_gP hK 0 11 7 236 rfl (by decide) h
    unfold g_X11_fallOn_7 f_X11_fallOn_45 f_X11_fallOn_72
    refine r_now hK 2 15 (by decide) ?_
    refine r_gI hK (i := 15) (c := 8) rfl ?_
    rw [hB.2.2.1.1, hM.cn (fun t' _ => by omega), nI_1]
    refine rn_f (nI_ge (by omega) (by omega)) ?_
    refine e7 ?_
    refine rn_eq (q_aF h236 g rfl (by omega) (by decide)) ?_
    rw [hT g (by omega)]
    by_cases h : tl R hh g
    · rw [if_pos h]
      refine rn_t gx_ge ?_
      refine rn_eq (k_near hK hR hS hH hM hB (by omega) ht) ?_
      have k2 := kn_le (R := R) (g := g) (t := t)
      have sn := snA_n (R := R) (hh := hh) (t := t) g
      by_cases h0 : kn R g t = 0
      · refine rn_t (by rw [h0]; decide) ?_
        rw [← snA_s1 h h0]
        exact ih (by omega) (by omega)
      · refine rn_f (nI_nle (by omega) (by omega)) ?_
        refine e7 ?_
        refine rn_eq (q_aF h236 g rfl (by omega) (by decide)) ?_
        rw [hT g (by omega), if_pos h]
        refine rn_eq (v := FP.fmul (gx R g hh) (wt (kn R g t))) (bm_some (xk_bm (by omega)) (by decide)) ?_
        have bs := snA_bm (R := R) (hh := hh) (t := t) (g + 1) (by omega)
        have i2 := ih (by omega) (by omega)
        rw [snA_s2 h h0] at bs i2
        refine rn_eq (v := FP.fadd (snA R hh t g).1 (FP.fmul (gx R g hh) (wt (kn R g t)))) (bm_some bs (by omega)) ?_
        refine rn_eq (v := wt ((snA R hh t g).2 + kn R g t)) ?_ i2
        show o_n32 (FP.fadd (wt (snA R hh t g).2) (wt (kn R g t))) = _
        rw [wt_add (by omega) (by omega)]
        exact wt_some (by omega)
    · rw [if_neg h]
      refine rn_f cm_lt ?_
      refine rn_t (by decide) ?_
      rw [← snA_s0 h]
      exact ih (by omega) (by omega)
theorem k_fallOn (hN1 : 200 ≤ N) (hK : KS sh z) (hw : OWS ow z) (hR : WF R) (hS : SPN d z) (hH : HopOK d z R) (hB : BK sh d z ow 3 (snF R hh t) q) (ht : t < nn R 1) (hT : HTD d z R hh (nn R 2)) : Rn (f_X11_fallOn N sh z (nI t) d) (fun r => r.1 = (if (snA R hh t (nn R 2)).2 = 0 then 0 else 1) ∧ FD (IX z ow 4 5) d r.2 ∧ BK sh r.2 z ow 3 (snF R hh (t + 1)) q) := by
  have n1 := hR.1.2.1.2
  have n2 := hR.1.2.2.1.2
  have sn := snA_n (R := R) (hh := hh) (t := t) (nn R 2)
  have hc := wt_cmp (n := (snA R hh t (nn R 2)).2) (by omega)
  have wF := snF_wn (R := R) (hh := hh) (t := t) hR.1 (by omega)
  have m1 : nn (snF R hh t) 1 = nn R 1 := (snF_smp (by omega)).cn (fun t' _ => by omega)
  have ht4 : tck 4 9 = true := by decide
  unfold f_X11_fallOn
  refine rn_t (ks_o hK 0 11 rfl) ?_
  have h0 : f_X11_fallOn_7 N sh N z (nI t) FP.fconst0 FP.fconst0 (0 : Int32) d = f_X11_fallOn_7 N sh N z (nI t) (snA R hh t 0).1 (wt (snA R hh t 0).2) (nI 0) d := by
    show _ = f_X11_fallOn_7 N sh N z (nI t) FP.fconst0 (wt 0) (nI 0) d
    rw [wt_0]
    rfl
  rw [h0]
  refine kfl_loop hK hR hS hH (snF_smp (by omega)) hB ht hT ?_ (nn R 2) 0 N (by omega) (by omega)
  unfold f_X11_fallOn_78 f_X11_fallOn_89 f_X11_fallOn_145 f_X11_fallOn_164
  have ht2 : t < nn (snF R hh t) 1 := by rw [m1]; exact ht
  by_cases h : (snA R hh t (nn R 2)).2 = 0
  · refine rn_t (hc.mpr h) ?_
    refine rn_t rfl ?_
    refine r_now hK 1 4 (by decide) ?_
    refine rn_t rfl ?_
    refine rn_bind (tb_put (o := 4) (nc := 9) (c := 1) hK hw ht4 hB.2.1 rfl ht2 rfl (by decide)) (fun d1 hd => ?_)
    refine rn_eq (v := (0 : Int32)) rfl (rn_some ⟨(if_pos h).symm, hd.2.mono (fun a ha => tx_ix ht4 hw ha), ?_⟩)
    have e : snF R hh (t + 1) = va_up (snF R hh t) (16 + 9 * t + 1) 1 := if_pos h
    rw [e]
    exact bk_upS (Or.inl rfl) hK hw wF hB ht2 (by decide) hd.1 hd.2
  · refine rn_f (fun q => h (hc.mp q)) ?_
    refine rn_f (by decide) ?_
    have b1 := snA_bm (R := R) (hh := hh) (t := t) (nn R 2) (by omega)
    have b2 := sw_bm (bm_mono b1 (by omega)) (by omega) h
    refine rn_eq (v := FP.fdiv (snA R hh t (nn R 2)).1 (wt (snA R hh t (nn R 2)).2)) (bm_some b2 (by decide)) ?_
    refine rn_eq (v := FP.fmul (FP.fdiv (snA R hh t (nn R 2)).1 (wt (snA R hh t (nn R 2)).2)) 1092616192) (bm_some (bm_mul10 b2 (by decide)) (by decide)) ?_
    refine r_now hK 1 4 (by decide) ?_
    refine r_now hK 1 4 (by decide) ?_
    refine rn_eq (tb_get (o := 4) (nc := 9) (c := 0) hK ht4 hB.2.1 rfl ht2 rfl (by decide)) ?_
    have ev : vS (snF R hh t) 0 t = R (16 + 9 * t + 0) := snF_hi t (by omega)
    rw [ev]
    refine rn_bind (tb_put (o := 4) (nc := 9) (c := 0) (v := snD R hh t) hK hw ht4 hB.2.1 rfl ht2 rfl (by decide)) (fun d1 hd => ?_)
    have k1 := bk_upS (Or.inl rfl) hK hw wF hB ht2 (k := 0) (by decide) hd.1 hd.2
    refine r_now hK 1 4 (by decide) ?_
    refine rn_f (by decide) ?_
    refine rn_bind (tb_put (o := 4) (nc := 9) (c := 1) hK hw ht4 k1.2.1 rfl (by rw [nn_up (by omega)]; exact ht2) rfl (by decide)) (fun d2 hd2 => ?_)
    refine rn_eq (v := (1 : Int32)) rfl (rn_some ⟨(if_neg h).symm, (hd.2.tr hd2.2).mono (fun a ha => tx_ix ht4 hw ha), ?_⟩)
    have e : snF R hh (t + 1) = va_up (va_up (snF R hh t) (16 + 9 * t + 1) 0) (16 + 9 * t + 0) (snD R hh t) := if_neg h
    rw [e, up_cm (by omega)]
    exact bk_upS (Or.inl rfl) hK hw (wn_up wF (by omega)) k1 (by rw [nn_up (by omega)]; exact ht2) (by decide) hd2.1 hd2.2
theorem kss_loop {y1 : YL} (hN1 : 200 ≤ N) (hR : WF R) (c1 : CI s1 z ow R R true y1 c) (g2 : s1.2.1 (z + 201) 4 = 0) (g3 : s1.2.1 (z + 201) 7 = 0) (hH : HopOK s1.2 z R) (hf1 : RFR z s0 s1) (hT : HTD s1.2 z R hh (nn R 2)) : ∀ (m t fu : Nat) (d : Dt), t + m = nn R 1 → m < fu → FD (IX z ow 3 39) s1.2 d → BK s1.1 d z ow 3 (snF R hh t) y1.1 → Rn (f_X11_snow_38 N fu z (nI (snC R hh t)) (nI t) (s1.1, d)) (KO z R K u c (nI (snC R hh (nn R 1)), some (snF R hh (nn R 1))) s0)
  | 0, t, fu, d, ht, hf, hF, hB => by
    obtain ⟨fu, rfl⟩ : ∃ q, fu = q + 1 := ⟨fu - 1, by omega⟩
    show Rn (g_X11_snow_38 N (f_X11_snow_38 N fu) z (nI (snC R hh t)) (nI t) (s1.1, d)) _
    have hK := c1.1
    have n1 := hR.1.2.1.2
    have n3 := hR.1.2.2.2.1.2
    unfold g_X11_snow_38 f_X11_snow_69
    refine r_now hK 1 4 (by decide) ?_
    refine r_gI hK (i := 4) (c := 8) rfl ?_
    rw [hB.2.1.1, (snF_smp (R := R) (hh := hh) (t := t) (by omega)).cn (fun t' _ => by omega)]
    refine rn_t (nI_le (by omega) (by omega)) ?_
    have e : t = nn R 1 := by omega
    subst e
    have sm := snF_smp (R := R) (hh := hh) (t := nn R 1) n1
    have qn := ci_newG c1 g2 g3 hF hB (pb_congr c1.2.2.2.2.2.1 (sm 3 (fun t' _ => by omega)) (fun j hj => sm j (fun t' _ => by omega))) ⟨sm.cn (fun t' _ => by omega), sm.cn (fun t' _ => by omega), fun s k _ h1 h2 => sm.st (by omega) h2⟩
    refine rn_bind (k_answer hK) (fun r hr => rn_some ?_)
    have q3 := ci_lg qn.1 hr.2
    exact ⟨hr.1, (hf1.tr qn.2).tr q3.2, ow, y1, q3.1⟩
  | m + 1, t, fu, d, ht, hf, hF, hB => by
    obtain ⟨fu, rfl⟩ : ∃ q, fu = q + 1 := ⟨fu - 1, by omega⟩
    have ih := kss_loop hN1 hR c1 g2 g3 hH hf1 hT m (t + 1) fu
    show Rn (g_X11_snow_38 N (f_X11_snow_38 N fu) z (nI (snC R hh t)) (nI t) (s1.1, d)) _
    have hK := c1.1
    have hw := c1.2.1
    have n1 := hR.1.2.1.2
    unfold g_X11_snow_38 f_X11_snow_63
    refine r_now hK 1 4 (by decide) ?_
    refine r_gI hK (i := 4) (c := 8) rfl ?_
    rw [hB.2.1.1, (snF_smp (R := R) (hh := hh) (t := t) (by omega)).cn (fun t' _ => by omega)]
    refine rn_f (nI_ge (by omega) (by omega)) ?_
    have row : ∀ i, 77 ≤ i → i ≤ 217 ∨ i = 236 → d.1 (z + i) = s1.2.1 (z + i) ∧ d.2.1 (z + i) = s1.2.2.1 (z + i) ∧ d.2.2.1 (z + i) = s1.2.2.2.1 (z + i) ∧ d.2.2.2 (z + i) = s1.2.2.2.2 (z + i) := fun i h1 h2 => by
      have he : ES (IX z ow 3 39) s1 ow (s1.1, d) ow := FD.es (sh := s1.1) (d := s1.2) hF
      rcases h2 with h2 | h2
      · exact es_row hK hw he (cO_ways h1 h2) (by omega)
      · subst h2
        exact es_row hK hw he (by decide) (by omega)
    have hS2 : SPN d z := ⟨fun x hx => by rw [(row 78 (by decide) (by decide)).2.2.2]; exact c1.spn.1 x hx, fun x hx => by rw [(row 140 (by decide) (by decide)).2.2.2]; exact c1.spn.2 x hx⟩
    have hH2 : HopOK d z R := ⟨fun a b ha hb => by rw [(row (79 + a) (by omega) (by omega)).1, (row 139 (by decide) (by decide)).2.1]; exact hH.1 a b ha hb, fun a b hb ha => by rw [(row 139 (by decide) (by decide)).2.1]; exact hH.2 a b hb ha⟩
    have hT2 : HTD d z R hh (nn R 2) := fun g hg => by
      rw [(row 236 (by decide) (by decide)).2.2.1]
      exact hT g hg
    refine rn_bind (k_fallOn hN1 hK hw hR hS2 hH2 hB (by omega) hT2) (fun r hr => ?_)
    obtain ⟨r1, r2, r3⟩ := hr
    rw [r1, nI_1]
    have es : snC R hh (t + 1) = snC R hh t + if (snA R hh t (nn R 2)).2 = 0 then 0 else 1 := rfl
    have i2 := ih r.2 (by omega) (by omega) (hF.tr (r2.mono (fun a ha => ix_mono ha (by omega) (by omega)))) r3
    by_cases h : (snA R hh t (nn R 2)).2 = 0
    · rw [if_pos h]
      refine rn_t rfl ?_
      rw [if_pos h] at es
      rw [es] at i2
      exact i2
    · rw [if_neg h]
      refine rn_f (by decide) ?_
      rw [if_neg h] at es
      rw [es] at i2
      rw [nI_1]
      exact i2
theorem krg_loop {Q : Dt → Prop} {y1 : YL} (hR : WF R) (hh2 : hh < 200) (hw : OWS ow z) (hQ : ∀ d, CI (s1.1, d) z ow R R true y1 c → RFR z s0 (s1.1, d) → d.1 (z + 201) 4 = 0 → d.1 (z + 201) 7 = 0 → HTD d z R hh (nn R 2) → Q d) : ∀ (m g fu : Nat) (d : Dt), g + m = nn R 2 → m < fu → CI (s1.1, d) z ow R R true y1 c → RFR z s0 (s1.1, d) → d.1 (z + 201) 4 = 0 → d.1 (z + 201) 7 = 0 → HTD d z R hh g → Rn (f_X11_readGauges_2 N s1.1 fu z (nI hh) (nI g) d) Q
  | 0, g, fu, d, hg, hf, hC, hF, g2, g3, hT => by
    obtain ⟨fu, rfl⟩ : ∃ q, fu = q + 1 := ⟨fu - 1, by omega⟩
    show Rn (g_X11_readGauges_2 N s1.1 (f_X11_readGauges_2 N s1.1 fu) z (nI hh) (nI g) d) _
    have hK : KS s1.1 z := hC.1
    have n2 := hR.1.2.2.1.2
    have hB : BK s1.1 d z ow 3 R y1.1 := hC.2.2.1
    unfold g_X11_readGauges_2 f_X11_readGauges_65
    refine r_now hK 2 15 (by decide) ?_
    refine r_gI hK (i := 15) (c := 8) rfl ?_
    rw [hB.2.2.1.1]
    refine rn_t (nI_le (by omega) (by omega)) ?_
    have e : g = nn R 2 := by omega
    subst e
    exact rn_some (hQ d hC hF g2 g3 hT)
  | m + 1, g, fu, d, hg, hf, hC, hF, g2, g3, hT => by
    obtain ⟨fu, rfl⟩ : ∃ q, fu = q + 1 := ⟨fu - 1, by omega⟩
    have ih := krg_loop hR hh2 hw hQ m (g + 1) fu
    show Rn (g_X11_readGauges_2 N s1.1 (f_X11_readGauges_2 N s1.1 fu) z (nI hh) (nI g) d) _
    have hK : KS s1.1 z := hC.1
    have n2 := hR.1.2.2.1.2
    have hg2 : g < nn R 2 := by omega
    have hB : BK s1.1 d z ow 3 R y1.1 := hC.2.2.1
    unfold g_X11_readGauges_2
    refine r_now hK 2 15 (by decide) ?_
    refine r_gI hK (i := 15) (c := 8) rfl ?_
    rw [hB.2.2.1.1]
    refine rn_f (nI_ge (by omega) (by omega)) ?_
    refine r_gP hK 0 11 1 3 rfl (by decide) ?_
    refine rn_eq (k_whyUnread hK hR.2.1 hB hg2) ?_
    refine r_gP hK 0 11 0 1 rfl (by decide) ?_
    refine rn_bind (k_find hK) (fun d1 hd => ?_)
    have q1 := ci_lg (s := (s1.1, d)) hC hd
    have hB1 : BK s1.1 d1 z ow 3 R y1.1 := q1.1.2.2.1
    refine r_gP hK 0 11 7 236 rfl (by decide) ?_
    have h236 := ks_a hK 236 2 20 rfl
    have o236 := hw 236 (by decide) (by decide)
    have fin : ∀ w : UInt32, (w = if tl R hh g then gx R g hh else 3212836864) → Rn (f_X11_readGauges_58 N s1.1 (f_X11_readGauges_2 N s1.1 fu) z (nI hh) (nI g) (z + 236) (nI g) w d1) Q := fun w hw9 => by
      unfold f_X11_readGauges_58
      refine rn_eq (q_sF h236 g rfl (by omega) (by decide)) ?_
      rw [nI_1]
      have fd : FD (IX z ow 236 236) d1 (wF d1 (z + 236) g w) := fun a ha => by
        have hne : a ≠ z + 236 := fun e => ha (by rw [e]; unfold IX; rw [onr_s o236 (by decide)]; omega)
        exact ⟨rfl, rfl, up2_n hne, rfl⟩
      have q2 : CI (s1.1, wF d1 (z + 236) g w) z ow R R true y1 c := ci_fd (s := (s1.1, d1)) q1.1 fd (Or.inr ⟨by decide, by decide⟩)
      have q3 : RFR z (s1.1, d1) (s1.1, wF d1 (z + 236) g w) := fun i h1 h2 => ⟨rfl, rfl, up2_n (by omega), rfl⟩
      refine ih _ (by omega) (by omega) q2 ((hF.tr q1.2).tr q3) ?_ ?_ (fun g' hg' => ?_)
      · show d1.1 (z + 201) 4 = 0
        rw [hd.2 _ (by omega) (by omega)]
        exact g2
      · show d1.1 (z + 201) 7 = 0
        rw [hd.2 _ (by omega) (by omega)]
        exact g3
      · show up2 d1.2.2.1 (z + 236) g w (z + 236) g' = _
        rw [up2_s]
        by_cases e : g' = g
        · subst e
          rw [va_up_s]
          exact hw9
        · rw [va_up_n e, hd.1]
          exact hT g' (by omega)
    have hbt := brs_tl (hh := hh) hR.2.1 hg2
    refine rn_ite (fun h1 => ?_) (fun h1 => ?_)
    · exact fin _ (if_neg (fun q => h1 (hbt.mpr (Or.inl ⟨q.1, q.2.1⟩)))).symm
    have h1 := Decidable.of_not_not h1
    have h2 := (hbt.mp h1).resolve_right (fun q => by omega)
    refine r_gP hK 0 11 1 3 rfl (by decide) ?_
    refine rn_eq (k_height hK hR.1 hR.2.1 hR.2.2.2.1 hB1 hg2 h2.2) ?_
    refine fin _ ?_
    by_cases h3 : R (5426 + 200 * g + hh) = 0
    · rw [if_pos h3, if_pos (show tl R hh g from ⟨h2.1, h2.2, h3⟩)]
    · rw [if_neg h3, if_neg (show ¬ tl R hh g from fun q => h3 q.2.2)]
theorem k_snow {x : Int32} (hNf : 300 ≤ N) (h : CI s z ow R K u y c) (hR : WF R) (hKF : WF K) : Rn (f_X11_snow N z x s) (KO z R K u c (sp_snow R x) s) := by
  have hK := h.1
  have hN := hR.1
  have n1 := hN.2.1.2
  have n2 := hN.2.2.1.2
  have bad : x < 0 ∨ 199 < x → Rn (f_X11_snow_11 N z s) (KO z R K u c (sp_snow R x) s) := fun hb => by
    rw [show sp_snow R x = _ from if_pos hb]
    unfold f_X11_snow_11
    refine rn_bind (k_refuse hK) (fun r hr => rn_some ?_)
    exact ko_lg h hr rfl
  unfold f_X11_snow
  refine rn_t (ks_o hK 0 11 rfl) ?_
  refine rn_ite (fun h1 => bad (Or.inl h1)) (fun h1 => ?_)
  refine rn_ite (fun h2 => ?_) (fun h2 => bad (Or.inr ((lt_pred (n := 200) (by decide)).mpr (Int32.not_lt.mp h2))))
  have hg : ¬ (x < 0 ∨ 199 < x) := fun q => q.elim h1 (fun q => Int32.not_le.mpr h2 ((lt_pred (n := 200) (by decide)).mp q))
  rw [show sp_snow R x = _ from if_neg hg]
  obtain ⟨hh, hh2, rfl, e⟩ := st_of (x := x) (n := 200) (by decide) (fun q => q.elim h1 (fun q => Int32.not_le.mpr h2 q))
  rw [e]
  refine rn_bind (ci_change (by omega) h hR.1 hR.2.1 hKF.1) (fun s1 hs => ?_)
  obtain ⟨f1, g1, g2, g3, ow1, y1, -, c1⟩ := hs
  have hK1 := c1.1
  unfold f_X11_snow_22
  refine rn_bind (P := fun d => CI (s1.1, d) z ow1 R R true y1 c ∧ RFR z s (s1.1, d) ∧ d.1 (z + 201) 4 = 0 ∧ d.1 (z + 201) 7 = 0 ∧ HTD d z R hh (nn R 2)) ?_ (fun d2 hd2 => ?_)
  · unfold f_X11_readGauges
    refine rn_t (ks_o hK1 0 11 rfl) ?_
    exact krg_loop hR hh2 c1.2.1 (fun d a1 a2 a3 a4 a5 => ⟨a1, a2, a3, a4, a5⟩) (nn R 2) 0 N s1.2 (by omega) (by omega) c1 f1 g2 g3 (fun g hg => absurd hg (Nat.not_lt_zero g))
  obtain ⟨c2, f2, k2, k3, hT⟩ := hd2
  refine r_gP hK1 0 11 3 77 rfl (by decide) ?_
  refine rn_bind (k_prepare (by omega) hK1 c2.2.1 hN hR.2.2.1 c2.spn c2.2.2.1.2.1 c2.2.2.2.2.2.2.2.1) (fun d3 hd3 => ?_)
  obtain ⟨w1, w2, w3, w4⟩ := hd3
  have q3 := ci_wy (s := (s1.1, d2)) c2 w1 (Or.inr ⟨w2, w3, w4⟩)
  have r201 : d3.1 (z + 201) = d2.1 (z + 201) := (w1.2 (z + 201) (by omega)).1
  exact kss_loop (s1 := (s1.1, d3)) (by omega) hR q3.1 (by show d3.1 (z + 201) 4 = 0; rw [r201]; exact k2) (by show d3.1 (z + 201) 7 = 0; rw [r201]; exact k3) w3 (f2.tr q3.2) (fun g hg => by show d3.2.2.1 (z + 236) g = _; rw [w1.1]; exact hT g hg) (nn R 1) 0 N d3 (by omega) (by omega) FD.rf q3.1.2.2.1
end SNK
