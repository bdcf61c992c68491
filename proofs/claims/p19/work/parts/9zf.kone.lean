/-! planOneWays of the class -/
section KOW
variable {s s' s0 s1 : AS} {sh : Sh} {d d0 d' : Dt} {z : Nat} {ow ow' ow0 : Nat → Nat} {R K : Nat → Int32} {u : Bool} {y : YL} {N n m k i j c p q x e v a b t cc tot : Nat} {T T' D L Lp Lp0 Lp' : Nat → Nat} {M : Nat → Prop} {l : List (Nat × Nat × Nat)} {Q : Int32 × AS → Prop}
def ONQ (s0 : AS) (z : Nat) (ow0 : Nat → Nat) (R : Nat → Int32) (Lp0 L : Nat → Nat) (M : Nat → Prop) (o : Int32 × List (Nat × Nat × Nat)) (r : Int32 × AS) : Prop := r.1 = o.1 ∧ GRA s0 z ow0 R Lp0 L M r.2 ∧ (o.1 = 0 → ∃ T D c, GRQ s0 z ow0 R T D c o.2 Lp0 L M r.2)
theorem on_stop {k49 : Nat → Int32 → Int32 → Int32 → AS → Option (Int32 × AS)} {l1 l3 v : Int32} (hv : v ≠ 0) : g_X5_planOneWays_49 N k49 (z + 221) l1 v l3 s = some (v, s) := by
  refine rn_val ?_
  have fin : Rn (f_X5_planOneWays_126 N (z + 221) v s) (fun r => r = (v, s)) := by
    unfold f_X5_planOneWays_126 f_X5_planOneWays_139
    exact rn_f hv (rn_some rfl)
  unfold g_X5_planOneWays_49
  exact rn_ite (fun _ => fin) (fun _ => rn_t hv fin)
theorem div2 {t k : Nat} (ht : t < 2 ^ 20) (hk : k < 2) : o_idiv (nI (2 * t + k)) 2 = some (nI t) ∧ o_irem (nI (2 * t + k)) 2 = some (nI k) := by
  constructor
  · unfold o_idiv
    rw [if_neg (by decide), show (2 : Int32) = nI 2 from rfl, pk_div (by omega) (by decide) (by decide)]
    congr 2
    omega
  · unfold o_irem
    rw [if_neg (by decide), show (2 : Int32) = nI 2 from rfl, pk_rem (by omega) (by decide) (by decide)]
    congr 2
    omega
theorem kno_loop (hN2 : 300 ≤ N) (hN : WN R) (hW : WS R) (hM0 : M 0) (ht0 : tot < 2 ^ 20) : ∀ (m k fu c : Nat) (D : Nat → Nat) (l : List (Nat × Nat × Nat)) (s : AS), k + m = tot → smN D (nn R 1) = m → m + 1 < fu → c < nn R 0 → (∀ t, t < nn R 1 → 0 < D t → M (eA R t) ∧ M (eB R t)) → GRQ s0 z ow0 R T D c l Lp0 L M s → Rn (f_X5_planOneWays_49 N fu (z + 221) (nI tot) 0 (nI k) s) (ONQ s0 z ow0 R Lp0 L M (nrF R m D c l))
  | m, k, fu, c, D, l, s, hk, hm, hf, hc, hM, h => by
    obtain ⟨fu, rfl⟩ : ∃ q, fu = q + 1 := ⟨fu - 1, by omega⟩
    have n0 := hN.1.2
    have n1 := hN.2.1.2
    obtain ⟨ow, Lp, es, kp, hl, m1, m2⟩ := id h
    have hK := kp.1
    show Rn (g_X5_planOneWays_49 N (f_X5_planOneWays_49 N fu) (z + 221) (nI tot) 0 (nI k) s) _
    unfold g_X5_planOneWays_49
    cases m with
    | zero =>
      refine rn_t (nI_le (by omega) (by omega)) ?_
      unfold f_X5_planOneWays_126 f_X5_planOneWays_139
      refine rn_t rfl ?_
      refine rn_bind (k_driveTo (b := 0) hN2 hN hW (by omega) hM0 hc h) (fun r hr => rn_some ?_)
      show ONQ s0 z ow0 R Lp0 L M (nrE R c l) (r.1, r.2)
      unfold nrE
      rcases hr with ⟨g1, ⟨g2, g3, g4⟩ | ⟨g2, g3, g4⟩⟩ | ⟨g1, g2, g3⟩
      · rw [ite_p g1, if_pos g3]
        exact ⟨g2, g4.any, fun _ => ⟨T, D, 0, g4⟩⟩
      · rw [ite_p g1, if_neg (by omega)]
        exact ⟨g2, g4, fun q => absurd (show (-3 : Int32) = 0 from q) (by decide)⟩
      · rw [ite_n g1]
        exact ⟨g2, g3, fun q => absurd (show (-8 : Int32) = 0 from q) (by decide)⟩
    | succ m =>
      refine rn_f (nI_ge (by omega) (by omega)) ?_
      refine rn_f (fun q => q rfl) ?_
      refine rn_bind (k_nearestStart hN2 hN hW hc kp hM) (fun r hr => ?_)
      rcases hr with ⟨g1, g2⟩ | ⟨g1, g2, g3⟩
      · refine rn_f (fun q => q g1) ?_
        unfold f_X5_planOneWays_70
        have e : nrF R (m + 1) D c l = (-8, []) := ite_n g2
        rw [e]
        exact rn_some ⟨rfl, h.any, fun q => absurd (show (-8 : Int32) = 0 from q) (by decide)⟩
      · obtain ⟨b1, b2, b3, ⟨n, b4⟩, b5⟩ := nrB_ld hW hN g3
        have hkk : (nrX R D c).2 = 0 ∨ ((nrX R D c).2 = 1 ∧ R (16 + 9 * (nrX R D c).1 + 5) = 0) := by
          obtain ⟨n', q1, -⟩ := g3
          exact q1.2.2.1
        have e : nrF R (m + 1) D c l = _ := ite_p g2
        rw [e]
        rw [g1]
        refine rn_t (nI_m1 (by omega)) ?_
        have dv := div2 (t := (nrX R D c).1) (k := (nrX R D c).2) (by omega) (by omega)
        refine rn_eq dv.1 ?_
        refine rn_eq dv.2 ?_
        obtain ⟨pa, pb, -, -⟩ := kp.2.2.1.2 _ b2
        have hMb : M (bgn R (nrX R D c).1 (nrX R D c).2) := by
          have q := hM _ b2 b3
          unfold bgn
          split
          · exact q.1
          · exact q.2
        have hbl := bgn_lt (k := (nrX R D c).2) hW hN b2
        have main : Rn (f_X5_planOneWays_104 N (f_X5_planOneWays_49 N fu) (z + 221) (nI tot) (nI k) (nI (nrX R D c).1) (z + 221) (nI (bgn R (nrX R D c).1 (nrX R D c).2)) s) (ONQ s0 z ow0 R Lp0 L M (if (nrL R D c l).length ≤ 2000 then nrF R m (dec1 D (nrX R D c).1) (oth R (nrX R D c).1 (bgn R (nrX R D c).1 (nrX R D c).2)) (nrL R D c l) else (-3, []))) := by
          have enl : (nrL R D c l).length = (l ++ emL R (bgn R (nrX R D c).1 (nrX R D c).2) 60 c).length + 1 := by
            unfold nrL
            rw [List.length_append]
            rfl
          obtain ⟨fu, rfl⟩ : ∃ q, fu = q + 1 := ⟨fu - 1, by omega⟩
          have stop : ∀ s9, GRA s0 z ow0 R Lp0 L M s9 → 2000 < (nrL R D c l).length → Rn (f_X5_planOneWays_49 N (fu + 1) (z + 221) (nI tot) (-3) (nI k + 1) s9) (ONQ s0 z ow0 R Lp0 L M (if (nrL R D c l).length ≤ 2000 then nrF R m (dec1 D (nrX R D c).1) (oth R (nrX R D c).1 (bgn R (nrX R D c).1 (nrX R D c).2)) (nrL R D c l) else (-3, []))) := fun s9 g9 hlen => by
            rw [if_neg (by omega)]
            show Rn (g_X5_planOneWays_49 N (f_X5_planOneWays_49 N fu) (z + 221) (nI tot) (-3) (nI k + 1) s9) _
            rw [on_stop (by decide)]
            exact rn_some ⟨rfl, g9, fun q => absurd (show (-3 : Int32) = 0 from q) (by decide)⟩
          unfold f_X5_planOneWays_104 f_X5_planOneWays_107 f_X5_planOneWays_119 f_X5_planOneWays_120
          refine rn_bind (k_driveTo hN2 hN hW hbl hMb hc h) (fun r9 hr9 => ?_)
          rcases hr9 with ⟨-, ⟨y2, y3, y4⟩ | ⟨y2, y3, y4⟩⟩ | ⟨y1, -, -⟩
          · refine rn_f (fun q => q y2) ?_
            obtain ⟨ow2, Lp2, es2, kp2, hl2, j1, j2⟩ := id y4
            refine rn_bind (k_addDrive (v := 1) (by decide) (fun _ => b3) hN2 hN hW b2 (by omega) hl2 kp2) (fun rA hA => ?_)
            rcases hA with ⟨w1, w2⟩ | ⟨w1, w2, ow3, Lp3, es3, kp3, x1, x2⟩
            · rw [w2]
              exact stop _ y4.any (by omega)
            · rw [w2, if_pos (by omega), nI_1]
              have x1 : rA.2.1.1.2.2 + 2 * smN Lp2 4 ≤ r9.2.1.1.2.2 + 2 * smN Lp3 4 := x1
              have x2 : rA.2.1.1.2.1 + smN Lp2 4 ≤ r9.2.1.1.2.1 + smN Lp3 4 := x2
              have kp3 : KP rA.2 z ow3 R T (dec1 D (nrX R D c).1) (oth R (nrX R D c).1 (bgn R (nrX R D c).1 (nrX R D c).2)) (nrL R D c l) Lp3 L M := kp3
              have hsm := dec_sm (T := D) b2 b3
              exact kno_loop hN2 hN hW hM0 ht0 m (k + 1) (fu + 1) _ _ _ rA.2 (by omega) (by omega) (by omega) b5 (fun t ht hp => hM t ht (Nat.lt_of_lt_of_le hp dec_le)) ⟨ow3, Lp3, es_tr es2 es3, kp3, by omega, by omega, by omega⟩
          · refine rn_t (by rw [y2]; decide) ?_
            rw [y2]
            exact stop _ y4 (by omega)
          · exact absurd ⟨n, b4⟩ y1
        rcases hkk with q | ⟨q, -⟩
        · refine rn_f (fun r => r (by rw [q]; rfl)) ?_
          refine r_gP hK 221 5 6 230 rfl (by decide) ?_
          refine rn_eq (q_aT (ks_a hK 230 0 150 rfl) (nrX R D c).1 rfl (by omega) (by decide)) ?_
          rw [pa]
          have eb : bgn R (nrX R D c).1 (nrX R D c).2 = eA R (nrX R D c).1 := if_pos q
          rw [eb] at main ⊢
          exact main
        · refine rn_t (by rw [q]; decide) ?_
          refine r_gP hK 221 5 7 231 rfl (by decide) ?_
          refine rn_eq (q_aT (ks_a hK 231 0 150 rfl) (nrX R D c).1 rfl (by omega) (by decide)) ?_
          rw [pb]
          have eb : bgn R (nrX R D c).1 (nrX R D c).2 = eB R (nrX R D c).1 := if_neg (by omega)
          rw [eb] at main ⊢
          exact main
theorem osum_loop (hK : KS s.1 z) (h8 : s.2.1 (z + 221) 8 = nI (nn R 1)) (hN : WN R) (hV : ∀ t, t < nn R 1 → s.2.1 (z + 233) t = nI (D t)) (hk : Rn (f_X5_planOneWays_45 N (z + 221) (nI (smN D (nn R 1))) s) Q) : ∀ (m i fu : Nat), i + m = nn R 1 → m < fu → Rn (f_X5_planOneWays_22 N fu (z + 221) (nI (smN D i)) (nI i) s) Q
  | 0, i, fu, hi, hf => by
    obtain ⟨fu, rfl⟩ : ∃ q, fu = q + 1 := ⟨fu - 1, by omega⟩
    have n1 := hN.2.1.2
    show Rn (g_X5_planOneWays_22 N (f_X5_planOneWays_22 N fu) (z + 221) (nI (smN D i)) (nI i) s) _
    unfold g_X5_planOneWays_22
    refine r_gI hK (i := 221) (c := 5) rfl ?_
    rw [h8]
    refine rn_t (nI_le (by omega) (by omega)) ?_
    have e : i = nn R 1 := by omega
    rw [e]
    exact hk
  | m + 1, i, fu, hi, hf => by
    obtain ⟨fu, rfl⟩ : ∃ q, fu = q + 1 := ⟨fu - 1, by omega⟩
    have n1 := hN.2.1.2
    show Rn (g_X5_planOneWays_22 N (f_X5_planOneWays_22 N fu) (z + 221) (nI (smN D i)) (nI i) s) _
    unfold g_X5_planOneWays_22
    refine r_gI hK (i := 221) (c := 5) rfl ?_
    rw [h8]
    refine rn_f (nI_ge (by omega) (by omega)) ?_
    refine r_gP hK 221 5 10 233 rfl (by decide) ?_
    refine rn_eq (q_aT (ks_a hK 233 0 150 rfl) i rfl (by omega) (by decide)) ?_
    rw [hV i (by omega), nI_add, nI_1]
    exact osum_loop hK h8 hN hV hk m (i + 1) fu (by omega) (by omega)
theorem k_planOneWays (hNf : 20000 ≤ N) (h : CI s z ow R K u y cc) (hR : WF R) (h00 : 0 < nn R 0) : Rn (f_X5_planOneWays N (z + 221) s) (PBQ s z R K u cc (nbR R)) := by
  have hK := h.1
  have hw := h.2.1
  have hN := hR.1
  have hW := hR.2.2.1
  have n0 := hN.1.2
  have n1 := hN.2.1.2
  obtain ⟨⟨S, V, h4, h5⟩, h6⟩ := h.2.2.2.2.1.2.1
  unfold f_X5_planOneWays
  refine rn_t (ks_o hK 221 5 rfl) ?_
  refine rn_bind (k_begin (by omega) hK hN hW hw h.2.2.1.2.1) (fun d1 h1 => ?_)
  obtain ⟨f1, P1, c12, c222, D1⟩ := h1
  have es1 : ES (IX z ow 221 234) s ow (s.1, d1) ow := FD.es (sh := s.1) (d := s.2) (f1.fd hw)
  have t0 : TB s.1 d1 z ow 222 4 0 (vL R []) y.2.2.1 := tb_zero h4 f1.1 c222
  have c1 := ci_pln h es1 ⟨0, _, t0, by decide⟩ h6 (Nat.le_refl _) (Nat.le_refl _)
  refine r_gP hK 221 5 1 77 rfl (by decide) ?_
  refine rn_bind (k_look (by omega) hK hN hW P1) (fun r2 h2 => ?_)
  obtain ⟨n2, l1, l2⟩ := h2
  have c2 := ci_pf c1.1 n2.pf
  have t2 : TB s.1 r2.2 z ow 222 4 0 (vL R []) y.2.2.1 := tb_ix (s := (s.1, d1)) (s' := (s.1, r2.2)) t0 hK hw (by decide) (FD.es (sh := s.1) (d := d1) (n2.pf.fd hw)) (by omega)
  have b1 : ∀ v, bit (1 : Int64) v = true ↔ 0 = v := fun v => by
    have : (1 : Int64) = bt 0 := by decide
    rw [this, bit_bt (by decide), decide_eq_true_iff]
  have hgo : ∀ j, bit (r2.1 ||| 1) j = true → j < nn R 0 := fun j hj => by
    rw [bit_or, Bool.or_eq_true] at hj
    rcases hj with q | q
    · obtain ⟨t, w1, w2, w3⟩ := (l2 j).mp q
      obtain ⟨-, a2, -, b2, -⟩ := ws_e hW hN w1
      omega
    · have := (b1 j).mp q
      omega
  refine rn_bind (ci_each (s := (s.1, r2.2)) (by omega) c2.1 hR hgo) (fun d3 h3 => ?_)
  obtain ⟨c3, f3, q1, q2, q3, q4, q5⟩ := h3
  have es3 : ES (IX z ow 77 200) (s.1, r2.2) ow (s.1, d3) ow := FD.es (sh := s.1) (d := r2.2) (q1.fd hw)
  have r3 : ∀ i, i = 221 ∨ (230 ≤ i ∧ i ≤ 233) → d3.1 (z + i) = d1.1 (z + i) := fun i hi => by
    have e := (es_row (s := (s.1, r2.2)) (s' := (s.1, d3)) hK hw es3 (i := i) (by
      have : i = 221 ∨ i = 230 ∨ i = 231 ∨ i = 232 ∨ i = 233 := by omega
      rcases this with rfl | rfl | rfl | rfl | rfl <;> decide) (by omega)).1
    exact e.trans (congrFun n2.1 (z + i))
  have P3 : PL d3 z R (T0 R) := by
    refine ⟨?_, fun t ht => ?_⟩
    · rw [r3 221 (by omega)]
      exact P1.1
    · rw [r3 230 (by omega), r3 231 (by omega), r3 232 (by omega)]
      exact P1.2 t ht
  have X3 : WX s.1 d3 z ow R y.1.1 (fun b => bit (r2.1 ||| 1) b = true) := ⟨c3.spn, c3.2.2.1.2.1, q3, fun b hb => ⟨hgo b hb, fun a ha => q4 b (by have := hgo b hb; omega) (q5 b hb) a ha⟩⟩
  have D3 : ∀ t, t < nn R 1 → d3.1 (z + 233) t = nI (T0 R t) := fun t ht => by rw [r3 233 (by omega)]; exact D1 t ht
  have kp3 : KP (s.1, d3) z ow R (T0 R) (T0 R) 0 [] y.2.2.1 y.1.1 (fun b => bit (r2.1 ||| 1) b = true) := ⟨hK, hw, P3, by rw [r3 221 (by omega)]; exact c12, fun t ht => ⟨D3 t ht, by have := T0_le hW ht; omega⟩, tb_ix (s := (s.1, r2.2)) (s' := (s.1, d3)) t2 hK hw (by decide) es3 (by omega), h6, X3⟩
  have F3 : RFR z s (s.1, d3) := (c1.2.tr c2.2).tr f3
  have sb : smN (T0 R) (nn R 1) ≤ smN (fun _ => 2) (nn R 1) := smN_le _ (fun k hk => T0_le hW hk)
  rw [smN_const] at sb
  refine osum_loop (s := (s.1, d3)) (D := T0 R) hK P3.1 hN D3 ?_ (nn R 1) 0 N (by omega) (by omega)
  unfold f_X5_planOneWays_45
  refine rn_mono (kno_loop (s0 := (s.1, d3)) (ow0 := ow) (T := T0 R) (Lp0 := y.2.2.1) (by omega) hN hW (by show bit (r2.1 ||| 1) 0 = true; rw [bit_or, (b1 0).mpr rfl, Bool.or_true]) (by omega) (smN (T0 R) (nn R 1)) 0 N 0 (T0 R) [] (s.1, d3) (by omega) rfl (by omega) h00 (fun t ht hp => ?_) (GRQ.rf kp3 (by decide))) (fun r hr => ?_)
  · have w : ∀ v, eA R t = v ∨ eB R t = v → bit (r2.1 ||| 1) v = true := fun v hv => by
      rw [bit_or, (l2 v).mpr ⟨t, ht, hp, hv⟩, Bool.true_or]
    exact ⟨w _ (Or.inl rfl), w _ (Or.inr rfl)⟩
  · obtain ⟨g1, ⟨T9, D9, c9, l9, ow9, Lp9, e9, k9, len9, m1, m2⟩, g3⟩ := hr
    by_cases h0 : (nbR R).1 = 0
    · obtain ⟨T8, D8, c8, ow8, Lp8, e8, k8, len8, x1, x2⟩ := g3 h0
      have c11 := ci_pln (s := (s.1, d3)) c3 e8 ⟨_, _, k8.2.2.2.2.2.1, len8⟩ k8.2.2.2.2.2.2.1 x1 x2
      exact ⟨g1, F3.tr c11.2, ow8, _, c11.1, fun _ => k8.2.2.2.2.2.1⟩
    · have c11 := ci_pln (s := (s.1, d3)) c3 e9 ⟨_, _, k9.2.2.2.2.2.1, len9⟩ k9.2.2.2.2.2.2.1 m1 m2
      exact ⟨g1, F3.tr c11.2, ow9, _, c11.1, fun q => absurd q h0⟩
end KOW
