/-! round() of the class, the rest -/
section KR2
variable {s s' s0 s1 : AS} {sh : Sh} {d d0 d' : Dt} {z : Nat} {ow ow' : Nat → Nat} {R R' R1 K : Nat → Int32} {u : Bool} {y : YL} {N n m k i j p q9 x e v a b t c : Nat} {T D L Lp : Nat → Nat} {l : List (Nat × Nat × Nat)} {q : BL} {Q : Int32 × AS → Prop}
def rd1 (R R' : Nat → Int32) : Nat → Int32 := fun k => if 9426 ≤ k ∧ k < 9582 then R k else R' k
theorem rd1_p {k : Nat} (h : 9426 ≤ k ∧ k < 9582) : rd1 R R' k = R k := if_pos h
theorem rd1_n {k : Nat} (h : k < 9426 ∨ 9582 ≤ k) : rd1 R R' k = R' k := if_neg (by omega)
theorem rdL_n {k : Nat} : ∀ p, p ≤ 12 → k < 9426 ∨ 9582 ≤ k → rdL R1 p k = R1 k
  | 0, _, _ => rfl
  | p + 1, hp, hk => by
    show lpR (rdL R1 p) p k = _
    rw [lpR_n (by omega)]
    exact rdL_n p (by omega) hk
theorem rdL_p {p' x : Nat} (hx : x < 13) : ∀ p, rdL R1 p (9426 + 13 * p' + x) = if p' < p ∧ 5 ≤ x then 0 else R1 (9426 + 13 * p' + x)
  | 0 => by rw [if_neg (fun g => absurd g.1 (Nat.not_lt_zero p'))]; rfl
  | p + 1 => by
    show lpR (rdL R1 p) p (9426 + 13 * p' + x) = _
    by_cases ep : p' = p
    · subst ep
      by_cases h5 : 5 ≤ x
      · rw [if_pos ⟨by omega, h5⟩]
        exact zr_in (by omega)
      · rw [if_neg (fun g => h5 g.2), lpR_n (by omega), rdL_p hx p', if_neg (fun g => h5 g.2)]
    · rw [lpR_n (by omega), rdL_p hx p]
      by_cases h5 : p' < p ∧ 5 ≤ x
      · rw [if_pos h5, if_pos ⟨by omega, h5.2⟩]
      · rw [if_neg h5, if_neg (fun g => h5 ⟨by omega, g.2⟩)]
theorem rdL_wn (h : WN R1) : ∀ p, WN (rdL R1 p)
  | 0 => h
  | p + 1 => zr_wn (rdL_wn h p) (by omega) 8
theorem rdL_wdn (h : WDn R1) : ∀ p, p ≤ 12 → WDn (rdL R1 p)
  | 0, _ => h
  | p + 1, hp => wdn_cg (rdL_wdn h p (by omega)) (rdL_wn h.1 (p + 1)) (fun j _ hj => lpR_n (by omega))
theorem rd1_D (hW : WS R) (hN : WN R) (hl : VL R l) (h : RND R l R') (hn : l.length ≤ 2000) (hi : i < l.length) (c : Nat) : vD (rd1 R R') c i = vL R l c i := by
  have n0 := hN.1.2
  have n1 := hN.2.1.2
  obtain ⟨r1, r4, rd, rp⟩ := h
  obtain ⟨d1, d2, d3⟩ := rd i hi
  obtain ⟨v1, v2, v3⟩ := hl _ (getD_mem hi)
  obtain ⟨e7, a2, e8, b2, hne⟩ := ws_e hW hN v1
  have hc : (l.getD i (0, 0, 0)).2.1 < nn R 0 := by omega
  have e1 : rd1 R R' (9642 + 3 * i) = nI (l.getD i (0, 0, 0)).1 := (rd1_n (by omega)).trans d1
  have e2 : rd1 R R' (9642 + 3 * i + 1) = nI (l.getD i (0, 0, 0)).2.1 := (rd1_n (by omega)).trans d2
  have e3 : rd1 R R' (9642 + 3 * i + 2) = nI (l.getD i (0, 0, 0)).2.2 := (rd1_n (by omega)).trans d3
  have en : nn (rd1 R R') (9642 + 3 * i) = (l.getD i (0, 0, 0)).1 := by unfold nn; rw [e1, nI_clamp (by omega)]
  have s7 : rd1 R R' (16 + 9 * (l.getD i (0, 0, 0)).1 + 7) = nI (eA R (l.getD i (0, 0, 0)).1) := by rw [rd1_n (by omega), r1 _ (by omega), e7]
  have s8 : rd1 R R' (16 + 9 * (l.getD i (0, 0, 0)).1 + 8) = nI (eB R (l.getD i (0, 0, 0)).1) := by rw [rd1_n (by omega), r1 _ (by omega), e8]
  unfold vD vL oth
  rw [e1, e2, e3, en, s7, s8]
  by_cases c0 : c = 0
  · rw [if_pos c0, if_pos c0]
  rw [if_neg c0, if_neg c0]
  by_cases c1 : c = 1
  · rw [if_pos c1, if_pos c1]
  rw [if_neg c1, if_neg c1]
  by_cases c2 : c = 2
  · rw [if_pos c2, if_pos c2]
    by_cases g : eA R (l.getD i (0, 0, 0)).1 = (l.getD i (0, 0, 0)).2.1
    · rw [if_pos (by rw [g]), if_pos g]
    · rw [if_neg (fun r => g (nI_inj r (by omega) (by omega)).symm), if_neg g]
  · rw [if_neg c2, if_neg c2]
theorem k_handTo (hN1 : 300 ≤ N) (hK : KS s.1 z) (hw : OWS ow z) (hR : WDn R) (hB : BK s.1 s.2 z ow 3 R q) (ht : TB s.1 s.2 z ow 222 4 l.length (vL R l) Lp) (hn : l.length ≤ 2000) (e1 : ∀ k, k < 4 ∨ 9 ≤ k → k < 9582 → R1 k = R k) (e4 : R1 4 = nI l.length) (eD : ∀ c i, c < 4 → i < l.length → vD R1 c i = vL R l c i) (h0 : s.2.1 (z + 228) 0 = nI l.length) : Rn ((f_X8_become N (z + 31) (z + 222) s).bind fun v7 => f_X5_handTo_24 N (z + 221) (z + 3) v7) (fun s' => ∃ ow' L', ES (IX z ow 31 39) s ow s' ow' ∧ BK s'.1 s'.2 z ow' 3 R1 (q.1, q.2.1, q.2.2.1, L', q.2.2.2.2) ∧ s'.1.1.2.2 + 2 * smN q.2.2.2.1 4 ≤ s.1.1.2.2 + 2 * smN L' 4 ∧ s'.1.1.2.1 + smN q.2.2.2.1 4 ≤ s.1.1.2.1 + smN L' 4) := by
  have ht31 : tck 31 4 = true := by decide
  have en4 : nn R1 4 = l.length := by unfold nn; rw [e4, nI_clamp (by omega)]
  refine rn_bind (tb_become (o := 31) (o2 := 222) (by omega) ht31 (by decide) (by omega) (by omega) hK hw hB.2.2.2.2.1 ht) (fun s1 h1 => ?_)
  obtain ⟨ow1, L1, es1, t1, bL, m1, m2⟩ := h1
  have es1 : ES (IX z ow 31 39) s ow s1 ow1 := es1.mono (fun a _ h => ix_mono (tx_ix ht31 hw h) (by omega) (by omega))
  have hK1 := KS.es hK es1
  have hw1 := OWS.es hw hK es1
  unfold f_X5_handTo_24
  refine r_gP hK1 221 5 4 228 rfl (by decide) ?_
  refine r_gP hK1 3 1 5 37 rfl (by decide) ?_
  refine rn_eq (cpy_I (sp := 0) (dp := 0) (n := 7) (ks_a hK1 228 0 7 rfl) (ks_a hK1 37 0 7 rfl) (by decide) (by decide) (by decide) (by decide)) ?_
  refine r_gP hK1 221 5 5 229 rfl (by decide) ?_
  refine r_gP hK1 3 1 6 38 rfl (by decide) ?_
  refine rn_eq (cpy_I (sp := 0) (dp := 0) (n := 60) (ks_a hK1 229 0 60 rfl) (ks_a hK1 38 0 60 rfl) (by decide) (by decide) (by decide) (by decide)) (rn_some ?_)
  have o37 := hw1 37 (by decide) (by decide)
  have o38 := hw1 38 (by decide) (by decide)
  have rowfd : ∀ (d : Dt) (f : Nat → Int32) (i : Nat), i = 37 ∨ i = 38 → FD (IX z ow1 37 38) d (va_up d.1 (z + i) f, d.2) := fun d f i hi a ha => by
    have ne : a ≠ z + i := fun e => ha (by
      rw [e]
      unfold IX
      rcases hi with rfl | rfl
      · rw [onr_s o37 (by decide)]
        omega
      · rw [onr_s o38 (by decide)]
        omega)
    exact ⟨va_up_n ne, rfl, rfl, rfl⟩
  have fd := (rowfd s1.2 (va_cpy (s1.2.1 (z + 228)) (s1.2.1 (z + 37)) 0 0 7) 37 (Or.inl rfl)).tr (rowfd (va_up s1.2.1 (z + 37) (va_cpy (s1.2.1 (z + 228)) (s1.2.1 (z + 37)) 0 0 7), s1.2.2) (va_cpy ((va_up s1.2.1 (z + 37) (va_cpy (s1.2.1 (z + 228)) (s1.2.1 (z + 37)) 0 0 7)) (z + 229)) ((va_up s1.2.1 (z + 37) (va_cpy (s1.2.1 (z + 228)) (s1.2.1 (z + 37)) 0 0 7)) (z + 38)) 0 0 60) 38 (Or.inr rfl))
  have es2 := FD.es (sh := s1.1) (ow := ow1) fd
  have t2 := tb_ix t1 hK1 hw1 ht31 es2 (by omega)
  have es3 := es1.tr (es2.mono (fun a _ h => ix_mono (lo2 := 31) (hi2 := 39) h (by omega) (by omega))) (fun a ha h => ix_old es1 ha h)
  refine ⟨ow1, L1, es3, bk_D hR (Or.inl rfl) hK hw hB es3 ?_ (fun c hc => ?_) e1, m1, m2⟩
  · rw [en4]
    exact tb_congr t2 (fun c i hc hi => eD c i hc hi)
  · have q4 := hB.2.2.2.2.2.2.2.2.2.2.1 c hc
    have := (bL c hc).2
    omega
theorem rp_loop (hN1 : 300 ≤ N) (hR : WDn R1) (hw : OWS ow z) (hK : KS s0.1 z) (hk : ∀ d, FD (IX z ow 20 21) s0.2 d → BK s0.1 d z ow 3 (rdL R1 (nn R1 3)) q → Rn (f_X11_round_83 N z (s0.1, d)) Q) : ∀ (m p fu : Nat) (d : Dt), p + m = nn R1 3 → m < fu → FD (IX z ow 20 21) s0.2 d → BK s0.1 d z ow 3 (rdL R1 p) q → Rn (f_X11_round_55 N fu z (nI p) (s0.1, d)) Q
  | m, p, fu, d, hc, hf, hF, hB => by
    obtain ⟨fu, rfl⟩ : ∃ q, fu = q + 1 := ⟨fu - 1, by omega⟩
    have n3 := hR.1.2.2.2.1.2
    have e3 : nn (rdL R1 p) 3 = nn R1 3 := by unfold nn; rw [rdL_n p (by omega) (by omega)]
    show Rn (g_X11_round_55 N (f_X11_round_55 N fu) z (nI p) (s0.1, d)) _
    unfold g_X11_round_55
    refine r_now hK 3 20 (by decide) ?_
    refine r_gI hK (i := 20) (c := 8) rfl ?_
    have hS := hB.2.2.2.1.1
    rw [e3] at hS
    rw [hS]
    cases m with
    | zero =>
      refine rn_t (nI_le (by omega) (by omega)) ?_
      have e : p = nn R1 3 := by omega
      rw [e] at hB
      exact hk d hF hB
    | succ m =>
      refine rn_f (nI_ge (by omega) (by omega)) ?_
      rw [show gP s0.1 z 11 1 = gP s0.1 (z + 0) 11 1 from rfl]
      refine r_gP hK 0 11 1 3 rfl (by decide) ?_
      refine rn_bind (k_dropPart (by omega) (rdL_wdn hR p (by omega)) hK hw hB (by omega)) (fun d2 h2 => ?_)
      rw [nI_1]
      exact rp_loop hN1 hR hw hK hk m (p + 1) fu d2 (by omega) (by omega) (hF.tr h2.1) h2.2
theorem k_round (hNf : 20000 ≤ N) (h : CI s z ow R K u y c) (hR : WF R) (hKF : WF K) (hRN : (rdR R).1 = 0 → RND R (rdR R).2 R') : Rn (f_X11_round N z s) (KO z R K u c (if (rdR R).1 = 0 then (nI (rdR R).2.length, some R') else ((rdR R).1, none)) s) := by
  have hK := h.1
  have hN := hR.1
  have hW := hR.2.2.1
  have n3 := hN.2.2.2.1.2
  have fin : ∀ (r : Int32 × AS), PBQ s z R K u c (rdR R) r → Rn (f_X11_round_27 N z r.1 r.2) (KO z R K u c (if (rdR R).1 = 0 then (nI (rdR R).2.length, some R') else ((rdR R).1, none)) s) := fun r hr => by
    obtain ⟨p1, p2, ow1, y1, c1, p5⟩ := hr
    unfold f_X11_round_27
    by_cases h0 : (rdR R).1 = 0
    · rw [if_pos h0]
      refine rn_t (p1.trans h0) ?_
      have hl := rdR_len h0
      have hv := rdR_vl hR
      have hrn := hRN h0
      refine rn_bind (ci_change2 (by omega) c1 hN hR.2.1 hKF.1) (fun s2 hs2 => ?_)
      obtain ⟨f2, g1, g2, g3, ow2, q2, c2, tT⟩ := hs2
      have tT := tT _ _ (p5 h0)
      have hK2 := c2.1
      have hw2 := c2.2.1
      have pf : PF z s2.2 (wI s2.2 (z + 228) 0 (nI (rdR R).2.length)) := PF.w (i := 228) (Or.inl rfl)
      have c3 := ci_pf c2 pf
      have t3 : TB s2.1 (wI s2.2 (z + 228) 0 (nI (rdR R).2.length)) z ow2 222 4 (rdR R).2.length (vL R (rdR R).2) y1.2.2.1 := tb_ix (s := s2) (s' := (s2.1, wI s2.2 (z + 228) 0 (nI (rdR R).2.length))) tT hK2 hw2 (by decide) (FD.es (sh := s2.1) (d := s2.2) (pf.fd hw2)) (by omega)
      have cj3 : CJ (s2.1, wI s2.2 (z + 228) 0 (nI (rdR R).2.length)) z ow2 R (q2, y1.2.2) c (pot y1.1) := cj_of c3.1 (by show (wI s2.2 (z + 228) 0 _).1 (z + 77) 5 = 0; rw [wI_n (by omega)]; exact g1) (by show (wI s2.2 (z + 228) 0 _).1 (z + 201) 4 = 0; rw [wI_n (by omega)]; exact g2) (by show (wI s2.2 (z + 228) 0 _).1 (z + 201) 7 = 0; rw [wI_n (by omega)]; exact g3)
      have B3 : BK s2.1 (wI s2.2 (z + 228) 0 (nI (rdR R).2.length)) z ow2 3 R y1.1 := c3.1.2.2.1
      have P3 : PB s2.1 (wI s2.2 (z + 228) 0 (nI (rdR R).2.length)) z ow2 R := c3.1.2.2.2.2.2.1
      unfold f_X11_round_42
      rw [show gP s2.1 z 11 5 = gP s2.1 (z + 0) 11 5 from rfl, show gP s2.1 z 11 1 = gP s2.1 (z + 0) 11 1 from rfl]
      refine r_gP hK2 0 11 5 221 rfl (by decide) ?_
      refine r_gP hK2 0 11 1 3 rfl (by decide) ?_
      refine rn_bind (P := fun s' => ∃ ow' L', ES (IX z ow2 31 39) (s2.1, wI s2.2 (z + 228) 0 (nI (rdR R).2.length)) ow2 s' ow' ∧ BK s'.1 s'.2 z ow' 3 (rd1 R R') (y1.1.1, y1.1.2.1, y1.1.2.2.1, L', y1.1.2.2.2.2) ∧ s'.1.1.2.2 + 2 * smN y1.1.2.2.2.1 4 ≤ s2.1.1.2.2 + 2 * smN L' 4 ∧ s'.1.1.2.1 + smN y1.1.2.2.2.1 4 ≤ s2.1.1.2.1 + smN L' 4) ?_ (fun s4 hs4 => ?_)
      · unfold f_X5_handTo
        refine rn_t (ks_o hK2 221 5 rfl) ?_
        refine r_gP hK2 221 5 4 228 rfl (by decide) ?_
        refine r_gP hK2 221 5 3 222 rfl (by decide) ?_
        refine r_gI hK2 (i := 222) (c := 8) rfl ?_
        rw [tT.1]
        refine rn_eq (q_sI (ks_a hK2 228 0 7 rfl) 0 rfl (by decide) (by decide)) ?_
        refine r_gP hK2 3 1 4 31 rfl (by decide) ?_
        refine r_gP hK2 221 5 3 222 rfl (by decide) ?_
        exact k_handTo (s := (s2.1, wI s2.2 (z + 228) 0 (nI (rdR R).2.length))) (R1 := rd1 R R') (by omega) hK2 hw2 (wdn_of hR) B3 t3 hl (fun k h1 h2 => by
          by_cases q : 9426 ≤ k ∧ k < 9582
          · exact rd1_p q
          · rw [rd1_n (by omega)]
            exact hrn.1 k (by omega)) ((rd1_n (by omega)).trans hrn.2.1) (fun c i _ hi => rd1_D hW hN hv hrn hl hi c) (by rw [wI_s, va_up_s])
      · obtain ⟨ow4, L4, es4, B4, m1, m2⟩ := hs4
        have hK4 := KS.es (s := (s2.1, wI s2.2 (z + 228) 0 (nI (rdR R).2.length))) hK2 es4
        have hw4 := OWS.es (s := (s2.1, wI s2.2 (z + 228) 0 (nI (rdR R).2.length))) hw2 hK2 es4
        have ep : pot (y1.1.1, y1.1.2.1, y1.1.2.2.1, L4, y1.1.2.2.2.2) + smN y1.1.2.2.2.1 4 = pot y1.1 + smN L4 4 := by
          show smN y1.1.1 9 + smN y1.1.2.1 3 + smN y1.1.2.2.1 9 + smN L4 4 + y1.1.2.2.2.2 + smN y1.1.2.2.2.1 4 = smN y1.1.1 9 + smN y1.1.2.1 3 + smN y1.1.2.2.1 9 + smN y1.1.2.2.2.1 4 + y1.1.2.2.2.2 + smN L4 4
          omega
        have j4 := cj_es (c' := c) (P' := pot (y1.1.1, y1.1.2.1, y1.1.2.2.1, L4, y1.1.2.2.2.2)) cj3 es4 (Or.inl ⟨by decide, by decide⟩) (by show s4.1.1.2.2 + 2 * _ + 5 * c ≤ s2.1.1.2.2 + 2 * _ + 5 * c; omega) (by show s4.1.1.2.1 + _ + c ≤ s2.1.1.2.1 + _ + c; omega)
        have P4 := pb_ix (s := (s2.1, wI s2.2 (z + 228) 0 (nI (rdR R).2.length))) P3 hK2 hw2 es4 (by omega) (by omega)
        have e13 : nn (rd1 R R') 3 = nn R 3 := by unfold nn; rw [rd1_n (by omega), hrn.1 3 (by omega)]
        have e3' : nn R' 3 = nn R 3 := by unfold nn; rw [hrn.1 3 (by omega)]
        have e4' : nn R' 4 = (rdR R).2.length := by unfold nn; rw [hrn.2.1, nI_clamp (by omega)]
        have hWR' := wf_rnd hR hv hl hrn
        have wd1 : WDn (rd1 R R') := by
          have e : ∀ k, k < 9426 → nn (rd1 R R') k = nn R' k := fun k hk => by unfold nn; rw [rd1_n (by omega)]
          have w := wdn_of hWR'
          refine ⟨?_, fun g hg => ?_, fun i hi => ?_⟩
          · have w1 := w.1
            unfold WN
            rw [e 0 (by omega), e 1 (by omega), e 2 (by omega), e 3 (by omega), e 4 (by omega), rd1_n (by omega), rd1_n (by omega), rd1_n (by omega), rd1_n (by omega), rd1_n (by omega)]
            exact w1
          · rw [e 2 (by omega)] at hg
            have := w.1.2.2.1.2
            rw [rd1_n (by omega), e _ (by omega)]
            exact w.2.1 g hg
          · rw [e 4 (by omega)] at hi
            have e2 : nn (rd1 R R') (9642 + 3 * i) = nn R' (9642 + 3 * i) := by unfold nn; rw [rd1_n (by omega)]
            rw [e2, e 1 (by omega)]
            exact w.2.2 i hi
        unfold f_X11_round_53
        refine rp_loop (s0 := s4) (R1 := rd1 R R') (by omega) wd1 hw4 hK4 (fun d5 fd5 B5 => ?_) (nn (rd1 R R') 3) 0 N s4.2 (by omega) (by omega) FD.rf B4
        have es5 : ES (IX z ow4 20 21) s4 ow4 (s4.1, d5) ow4 := FD.es (sh := s4.1) (d := s4.2) fd5
        have j5 := cj_es (c' := c) (P' := pot (y1.1.1, y1.1.2.1, y1.1.2.2.1, L4, y1.1.2.2.2.2)) j4.1 es5 (Or.inl ⟨by decide, by decide⟩) (Nat.le_refl _) (Nat.le_refl _)
        have eqP : ∀ p, p < nn R 3 → ∀ x, x < 13 → R' (9426 + 13 * p + x) = rdL (rd1 R R') (nn (rd1 R R') 3) (9426 + 13 * p + x) := fun p hp x hx => by
          rw [rdL_p hx, hrn.2.2.2 p hp x hx, e13]
          by_cases h5 : 5 ≤ x
          · rw [if_pos h5, if_pos ⟨hp, h5⟩]
          · rw [if_neg h5, if_neg (fun g => h5 g.2), rd1_p (by omega)]
        have e33 : nn (rdL (rd1 R R') (nn (rd1 R R') 3)) 3 = nn R' 3 := congrArg Int32.toNatClampNeg ((rdL_n (nn (rd1 R R') 3) (by omega) (by omega)).trans (rd1_n (by omega)))
        have tP : TB s4.1 d5 z ow4 20 9 (nn R' 3) (vP R') y1.1.2.2.1 := by
          have t := B5.2.2.2.1
          rw [e33] at t
          refine tb_congr t (fun c i hc hi => ?_)
          rw [e3'] at hi
          have g := eqP i hi
          unfold vP
          simp only [g 6 (by omega), g 7 (by omega), g 8 (by omega), g 9 (by omega), g 10 (by omega), g 1 (by omega), g 2 (by omega), show R' (9426 + 13 * i) = rdL (rd1 R R') (nn (rd1 R R') 3) (9426 + 13 * i) from g 0 (by omega), g 11 (by omega), g 12 (by omega)]
        have BR : BK s4.1 d5 z ow4 3 R' (y1.1.1, y1.1.2.1, y1.1.2.2.1, L4, y1.1.2.2.2.2) := bk_P (s := (s4.1, d5)) (s' := (s4.1, d5)) (rdL_wdn wd1 _ (by omega)) (Or.inl rfl) hK4 hw4 B5 ES.rf tP B5.2.2.2.2.2.2.2.2.2.1 (fun k _ hk => by
          exact ((rdL_n (nn (rd1 R R') 3) (by omega) hk).trans (rd1_n hk)).symm)
        have P5 : PB s4.1 d5 z ow4 R := pb_ix (s := s4) (s' := (s4.1, d5)) P4 hK4 hw4 es5 (by omega) (by omega)
        have PR : PB s4.1 d5 z ow4 R' := fun p hp => by
          rw [e3'] at hp
          have eP : ∀ p, p < nn R 3 → ∀ x, x < 5 → nn R' (9426 + 13 * p + x) = nn R (9426 + 13 * p + x) := fun p hp x hx => by
            unfold nn
            rw [hrn.2.2.2 p hp x (by omega), if_neg (by omega)]
          have eP0 : ∀ p, p < nn R 3 → nn R' (9426 + 13 * p) = nn R (9426 + 13 * p) := fun p hp => eP p hp 0 (by omega)
          obtain ⟨a, h1, h2⟩ := P5 p hp
          refine ⟨a, h1, ?_⟩
          rw [eP0 p hp]
          rcases h2 with ⟨k1, k2⟩ | ⟨k1, k2⟩
          · exact Or.inl ⟨k1, k2⟩
          · right
            obtain ⟨a', b', ha, hb, q1, q2, -⟩ := (hR.2.2.2.2.1 p hp).2.1 k1
            have na : nn R (9426 + 13 * p + 3) = a' := by unfold nn; rw [q1, nI_clamp (by omega)]
            have nb : nn R (9426 + 13 * p + 4) = b' := by unfold nn; rw [q2, nI_clamp (by omega)]
            rw [na, nb] at k2
            rw [eP p hp 3 (by omega), eP p hp 4 (by omega), na, nb, eP0 a' ha, eP0 b' hb]
            exact ⟨k1, k2⟩
        have cF := cj_ci j5.1 BR PR
        unfold f_X11_round_83
        rw [show gP s4.1 z 11 1 = gP s4.1 (z + 0) 11 1 from rfl]
        refine r_gP hK4 0 11 1 3 rfl (by decide) ?_
        refine r_gP hK4 3 1 4 31 rfl (by decide) ?_
        refine r_gI hK4 (i := 31) (c := 8) rfl ?_
        have t4 : d5.1 (z + 31) 1 = nI (nn R' 4) := BR.2.2.2.2.1.1
        show Rn ((f_X11_answer N s4.1 z (d5.1 (z + 31) 1) d5).bind _) _
        rw [t4, e4']
        refine rn_bind (k_answer hK4) (fun ra hra => rn_some ?_)
        have q := ci_lg (s := (s4.1, d5)) cF hra.2
        exact ⟨hra.1, ((((p2.tr f2).tr c3.2).tr j4.2).tr j5.2).tr q.2, ow4, _, q.1⟩
    · rw [if_neg h0]
      refine rn_f (fun q => h0 (p1.symm.trans q)) ?_
      refine rn_bind (k_refuse c1.1) (fun ra hra => rn_some ?_)
      have q := ko_lg2 c1 p2 hra
      rw [hra.1, p1] at q
      exact ⟨hra.1.trans p1, q.2⟩
  unfold f_X11_round
  refine rn_t (by rw [← z0 (z := z)]; exact ks_o hK 0 11 rfl) ?_
  rw [show gP s.1 z 11 1 = gP s.1 (z + 0) 11 1 from rfl, show gP s.1 z 11 5 = gP s.1 (z + 0) 11 5 from rfl]
  refine r_gP hK 0 11 1 3 rfl (by decide) ?_
  refine rn_bind (k_hasOneWay (by omega) hK hN hW h.2.2.1.2.1) (fun v hv => ?_)
  rcases hv with ⟨hv, hB⟩ | ⟨hv, hB⟩
  · refine rn_t hv ?_
    refine r_gP hK 0 11 5 221 rfl (by decide) ?_
    have e : rdR R = pbR R := ite_p hB
    refine rn_bind (k_planBothWays hNf h hR hB) (fun r hr => fin r ?_)
    rw [e]
    exact hr
  · refine rn_f (by rw [hv]; decide) ?_
    refine r_gP hK 0 11 5 221 rfl (by decide) ?_
    have e : rdR R = nbR R := ite_n hB
    have h0 : 0 < nn R 0 := by
      rcases Nat.eq_zero_or_pos (nn R 0) with q | q
      · refine absurd (fun s hs _ => ?_) hB
        obtain ⟨-, a2, -⟩ := ws_e hW hN hs
        omega
      · exact q
    unfold f_X11_round_17
    refine rn_bind (k_planOneWays hNf h hR h0) (fun r hr => fin r ?_)
    rw [e]
    exact hr
end KR2
