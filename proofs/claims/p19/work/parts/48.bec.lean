def inCg (R : Nat → Int32) (G k : Nat) : Prop := ∃ g h, g < G ∧ h < nn R (1366 + 3 * g + 2) ∧ k = 200 * g + h
section BC
variable {sh : Sh} {d : Dt} {z : Nat} {ow : Nat → Nat} {b1 b2 : Nat} {R : Nat → Int32} {N : Nat}
theorem cpy_J {src dst ls ld sp dp n : Nat} (h1 : isA sh src 1 ∧ sh.2.2.1 src = ls) (h2 : isA sh dst 1 ∧ sh.2.2.1 dst = ld) (b1 : sp + n ≤ ls) (b2 : dp + n ≤ ld) (b3 : ls < 2 ^ 31) (b4 : ld < 2 ^ 31) : cpy sh d src (nI sp) dst (nI dp) (nI n) = some (d.1, va_up d.2.1 dst (va_cpy (d.2.1 src) (d.2.1 dst) sp dp n), d.2.2) := by
  unfold cpy
  rw [if_pos h1.1.2.2]
  unfold cpJ
  rw [h1.2, h2.2, nI_clamp (by omega), nI_clamp (by omega), nI_clamp (by omega), if_pos ⟨h1.1, h2.1, nI_pos (by omega), nI_pos (by omega), nI_pos (by omega), b1, b2⟩]
theorem hours_max {k : Nat} (h : R k = -1 ∨ R k = nI (nn R k)) (h2 : nn R k ≤ 200) : o_max (0 : Int32) (R k) = nI (nn R k) := by
  rcases h with h | h
  · unfold nn
    rw [h]
    decide
  · rw [h]
    exact (o_max_nI (a := 0) (b := nn R k) (by omega) (by omega)).trans (by rw [Nat.zero_max])
theorem cells_loop {Lc Lc2 : Nat} {L : Nat → Nat} (hb : bck b1) (hb2 : bck b2) (hd : b1 + 37 ≤ b2 ∨ b2 + 37 ≤ b1) (hK : KS sh z) (hw : OWS ow z) (hN : WN R) (hG : WG R) (h1 : nn R 2 * 200 ≤ Lc) (h2 : nn R 2 * 200 ≤ Lc2) : ∀ (m g fu : Nat) (d : Dt), g + m = nn R 2 → m < fu → TB sh d z ow (b1 + 12) 3 (nn R 2) (vG R) L → CE sh d z ow b2 Lc2 (inC R) (vC R) → CE sh d z ow b1 Lc (inCg R g) (vC R) →
    Rn (f_X1_become_88 N fu (z + b1) (z + b2) (nI g) (sh, d)) (fun s' => s'.1 = sh ∧ s'.2.1 = d.1 ∧ s'.2.2.2 = d.2.2 ∧ FD (IX z ow b1 b1) d s'.2 ∧ CE sh s'.2 z ow b1 Lc (inC R) (vC R))
  | 0, g, fu, d, hg, hf, ht, hc2, hc1 => by
    obtain ⟨fu, rfl⟩ : ∃ q, fu = q + 1 := ⟨fu - 1, by omega⟩
    show Rn (g_X1_become_88 N (f_X1_become_88 N fu) (z + b1) (z + b2) (nI g) (sh, d)) _
    unfold g_X1_become_88
    have hp := bck_p hb
    have htt := bck_t hb
    have hn := hN.2.2.1.2
    refine r_gP hK b1 1 2 (b1 + 12) (bck_o hb) hp.2.1 ?_
    refine r_gI hK (tck_1 htt.2.1) ?_
    rw [show (sh, d).2 = d from rfl, ht.1]
    refine rn_t (nI_le (by omega) (by omega)) ?_
    have e : g = nn R 2 := by omega
    subst e
    exact rn_some ⟨rfl, rfl, rfl, FD.rf, hc1⟩
  | m + 1, g, fu, d, hg, hf, ht, hc2, hc1 => by
    obtain ⟨fu, rfl⟩ : ∃ q, fu = q + 1 := ⟨fu - 1, by omega⟩
    show Rn (g_X1_become_88 N (f_X1_become_88 N fu) (z + b1) (z + b2) (nI g) (sh, d)) _
    unfold g_X1_become_88
    have hp := bck_p hb
    have htt := bck_t hb
    have hn := hN.2.2.1.2
    have hgn : g < nn R 2 := by omega
    obtain ⟨hh, hh2⟩ := hG g hgn
    obtain ⟨a2, p1, p2, p3, p4, p5, p6⟩ := id hc2
    obtain ⟨a1, r1, r2, r3, r4, r5, r6⟩ := id hc1
    refine r_gP hK b1 1 2 (b1 + 12) (bck_o hb) hp.2.1 ?_
    refine r_gI hK (tck_1 htt.2.1) ?_
    rw [show (sh, d).2 = d from rfl, ht.1]
    refine rn_f (nI_ge hgn (by omega)) ?_
    refine r_gP hK b1 1 2 (b1 + 12) (bck_o hb) hp.2.1 ?_
    refine rn_eq (tb_get (c := 2) hK htt.2.1 ht rfl hgn rfl (by decide)) ?_
    refine r_gQ hK a2 p1 (bck_o hb2) ?_
    refine r_gQ hK a1 r1 (bck_o hb) ?_
    have e1 : o_max (0 : Int32) (vG R 2 g) = nI (nn R (1366 + 3 * g + 2)) := hours_max hh hh2
    have e2 : nI g * (200 : Int32) = nI (g * 200) := pk_mul g 200
    rw [e1, e2]
    refine rn_eq (cpy_J ⟨p3, p4⟩ ⟨r3, r4⟩ (by omega) (by omega) (by omega) (by omega)) ?_
    rw [nI_1]
    have hne : a2 ≠ a1 := fun e => by
      rw [e, r2] at p2
      omega
    have hX : ∀ b, ¬ IX z ow b1 b1 b → b ≠ a1 := fun b hb9 e => hb9 (by rw [e]; unfold IX; rw [onr_r (o := b1) (k := 0) r2 (by omega)]; omega)
    have hfd : ∀ F, FD (IX z ow b1 b1) d (d.1, va_up d.2.1 a1 F, d.2.2) := fun F b hb9 => ⟨rfl, va_up_n (hX b hb9), rfl, rfl⟩
    refine rn_mono (cells_loop hb hb2 hd hK hw hN hG h1 h2 m (g + 1) fu _ (by omega) (by omega) ht ⟨a2, p1, p2, p3, p4, p5, fun k hk => ⟨(p6 k hk).1, ?_⟩⟩ ⟨a1, r1, r2, r3, r4, r5, fun k hk => ?_⟩) (fun s' hs => ⟨hs.1, hs.2.1, hs.2.2.1, (hfd _).tr hs.2.2.2.1, hs.2.2.2.2⟩)
    · show va_up d.2.1 a1 _ a2 k = _
      rw [va_up_n hne]
      exact (p6 k hk).2
    · obtain ⟨g', h', q1, q2, q3⟩ := hk
      show k < Lc ∧ va_up d.2.1 a1 (va_cpy (d.2.1 a2) (d.2.1 a1) (g * 200) (g * 200) (nn R (1366 + 3 * g + 2))) a1 k = _
      rw [va_up_s]
      show k < Lc ∧ (if g * 200 ≤ k ∧ k < g * 200 + nn R (1366 + 3 * g + 2) then d.2.1 a2 (g * 200 + (k - g * 200)) else d.2.1 a1 k) = _
      by_cases e : g' = g
      · subst e
        have r := p6 k ⟨g', h', hgn, q2, q3⟩
        rw [if_pos (by omega)]
        have e3 : g' * 200 + (k - g' * 200) = k := by omega
        rw [e3]
        exact ⟨by omega, r.2⟩
      · have hh9 := (hG g' (by omega)).2
        rw [if_neg (by omega)]
        exact r6 k ⟨g', h', by omega, q2, q3⟩
theorem nix {i lo hi : Nat} (h : ow (z + i) = 0) (hi9 : i < 264) (hx : hi < i ∨ i < lo) : ¬ IX z ow lo hi (z + i) := fun q => by
  unfold IX at q
  rw [onr_s h hi9] at q
  omega
theorem fd_ix {i : Nat} {k : Nat} {v : Int32} (hi : i < 264) (h : ow (z + i) = 0) : FD (IX z ow i i) d (wI d (z + i) k v) := FD.wI (by unfold IX; rw [onr_s h hi]; omega)
theorem bk_become {s : AS} {R1 : Nat → Int32} {q1 q2 : BL} (hNf : 30 ≤ N) (hb : bck b1) (hb2 : bck b2) (hd : b1 + 37 ≤ b2 ∨ b2 + 37 ≤ b1) (hK : KS s.1 z) (hw : OWS ow z) (hN1 : WN R1) (hN : WN R) (hG : WG R) (h1 : BK s.1 s.2 z ow b1 R1 q1) (h2 : BK s.1 s.2 z ow b2 R q2) : Rn (f_X1_become N (z + b1) (z + b2) s) (fun s' => ∃ ow' q', ES (IX z ow b1 (b1 + 36)) s ow s' ow' ∧ BK s'.1 s'.2 z ow' b1 R q' ∧ s'.1.1.2.2 + 2 * pot q1 ≤ s.1.1.2.2 + 2 * pot q' ∧ s'.1.1.2.1 + pot q1 ≤ s.1.1.2.1 + pot q') := by
  have hp := bck_p hb
  have hp2 := bck_p hb2
  have ht := bck_t hb
  have ht2 := bck_t hb2
  have hwb := bck_w hb hw
  have n1 := hN.2.1.2
  have n2 := hN.2.2.1.2
  have n3 := hN.2.2.2.1.2
  have n4 := hN.2.2.2.2.2
  obtain ⟨L1, L2, L3, L4, Lc⟩ := q1
  obtain ⟨x0, x1, x2, x3, x4, x5, x6, x7⟩ := h1
  obtain ⟨y1, y2, y3, y4, y5⟩ := x7
  unfold f_X1_become
  refine rn_t (ks_o hK b1 1 (bck_o hb)) ?_
  refine r_gI hK (bck_o hb2) ?_
  rw [h2.1]
  refine r_pI hK (bck_o hb) ?_
  refine r_gP hK b1 1 1 (b1 + 1) (bck_o hb) hp.1 ?_
  refine r_gP hK b2 1 1 (b2 + 1) (bck_o hb2) hp2.1 ?_
  have hs0 : ES (IX z ow b1 b1) s ow (s.1, wI s.2 (z + b1) 0 (R 0)) ow := FD.es (sh := s.1) (fd_ix hwb.2 hwb.1)
  have f0 : (wI s.2 (z + b1) 0 (R 0)).1 (z + b1) 0 = R 0 := by rw [wI_s, va_up_s]
  have x1 := tb_ix x1 hK hw ht.1 hs0 (by omega)
  have x2 := tb_ix x2 hK hw ht.2.1 hs0 (by omega)
  have x3 := tb_ix x3 hK hw ht.2.2.1 hs0 (by omega)
  have x4 := tb_ix x4 hK hw ht.2.2.2 hs0 (by omega)
  have x5 : CE (s.1, wI s.2 (z + b1) 0 (R 0)).1 (s.1, wI s.2 (z + b1) 0 (R 0)).2 z ow b1 Lc (inC R1) (vC R1) := x5
  have h2 := bk_ix h2 hb2 hK hw hs0 (by omega)
  have hs0 : ES (IX z ow b1 (b1 + 36)) s ow (s.1, wI s.2 (z + b1) 0 (R 0)) ow := hs0.mono (fun a _ h => ix_mono h (by omega) (by omega))
  have c0 : (s.1, wI s.2 (z + b1) 0 (R 0)).1.1.2.2 = s.1.1.2.2 ∧ (s.1, wI s.2 (z + b1) 0 (R 0)).1.1.2.1 = s.1.1.2.1 := ⟨rfl, rfl⟩
  have hK0 : KS (s.1, wI s.2 (z + b1) 0 (R 0)).1 z := hK
  have f0 : (s.1, wI s.2 (z + b1) 0 (R 0)).2.1 (z + b1) 0 = R 0 := f0
  generalize (s.1, wI s.2 (z + b1) 0 (R 0)) = s0 at hs0 f0 x1 x2 x3 x4 x5 h2 c0 hK0 ⊢
  -- streets
  refine rn_bind (tb_become (by omega) ht.1 ht2.1 (by omega) (by omega) hK0 hw x1 h2.2.1) (fun s1 hs => ?_)
  obtain ⟨ow1, M1, e1, t1, b1', w1, m1⟩ := hs
  have e1 := e1.mono (fun a _ h => tx_ix ht.1 hw h)
  have f1 : s1.2.1 (z + b1) 0 = R 0 := by
    rw [((e1.2.2 (z + b1) (by have := hK0.2.1; omega)).2.2.2.2 (nix hwb.1 hwb.2 (by omega))).1]
    exact f0
  have x2 := tb_ix x2 hK0 hw ht.2.1 e1 (by omega)
  have x3 := tb_ix x3 hK0 hw ht.2.2.1 e1 (by omega)
  have x4 := tb_ix x4 hK0 hw ht.2.2.2 e1 (by omega)
  have x5 := ce_ix x5 hK0 hwb.1 hwb.2 e1 (by omega)
  have h2 := bk_ix h2 hb2 hK0 hw e1 (by omega)
  have hK1 := KS.es hK0 e1
  have hw1 := OWS.es hw hK0 e1
  have hwb1 := bck_w hb hw1
  have hs1 := hs0.tr e1 (fun a ha h => ix_mono (ix_old hs0 ha h) (by omega) (by omega))
  unfold f_X1_become_19
  refine r_gP hK1 b1 1 2 (b1 + 12) (bck_o hb) hp.2.1 ?_
  refine r_gP hK1 b2 1 2 (b2 + 12) (bck_o hb2) hp2.2.1 ?_
  refine rn_bind (tb_become (by omega) ht.2.1 ht2.2.1 (by omega) (by omega) hK1 hw1 x2 h2.2.2.1) (fun s2 hs => ?_)
  obtain ⟨ow2, M2, e2, t2, b2', w2, m2⟩ := hs
  have e2 : ES (IX z ow1 (b1 + 12) (b1 + 12 + 1)) s1 ow1 s2 ow2 := e2.mono (fun a _ h => tx_ix ht.2.1 hw1 h)
  have f2 : s2.2.1 (z + b1) 0 = R 0 := by
    rw [((e2.2.2 (z + b1) (by have := hK1.2.1; omega)).2.2.2.2 (nix hwb1.1 hwb1.2 (by omega))).1]
    exact f1
  have t1 := tb_ix t1 hK1 hw1 ht.1 e2 (by omega)
  have x3 := tb_ix x3 hK1 hw1 ht.2.2.1 e2 (by omega)
  have x4 := tb_ix x4 hK1 hw1 ht.2.2.2 e2 (by omega)
  have x5 := ce_ix x5 hK1 hwb1.1 hwb1.2 e2 (by omega)
  have h2 := bk_ix h2 hb2 hK1 hw1 e2 (by omega)
  have hK2 := KS.es hK1 e2
  have hw2 := OWS.es hw1 hK1 e2
  have hwb2 := bck_w hb hw2
  have hs2 := hs1.tr e2 (fun a ha h => ix_mono (ix_old hs1 ha h) (by omega) (by omega))
  unfold f_X1_become_30
  refine r_gP hK2 b1 1 3 (b1 + 17) (bck_o hb) hp.2.2.1 ?_
  refine r_gP hK2 b2 1 3 (b2 + 17) (bck_o hb2) hp2.2.2.1 ?_
  refine rn_bind (tb_become (by omega) ht.2.2.1 ht2.2.2.1 (by omega) (by omega) hK2 hw2 x3 h2.2.2.2.1) (fun s3 hs => ?_)
  obtain ⟨ow3, M3, e3, t3, b3', w3, m3⟩ := hs
  have e3 : ES (IX z ow2 (b1 + 17) (b1 + 17 + 1)) s2 ow2 s3 ow3 := e3.mono (fun a _ h => tx_ix ht.2.2.1 hw2 h)
  have f3 : s3.2.1 (z + b1) 0 = R 0 := by
    rw [((e3.2.2 (z + b1) (by have := hK2.2.1; omega)).2.2.2.2 (nix hwb2.1 hwb2.2 (by omega))).1]
    exact f2
  have t1 := tb_ix t1 hK2 hw2 ht.1 e3 (by omega)
  have t2 := tb_ix t2 hK2 hw2 ht.2.1 e3 (by omega)
  have x4 := tb_ix x4 hK2 hw2 ht.2.2.2 e3 (by omega)
  have x5 := ce_ix x5 hK2 hwb2.1 hwb2.2 e3 (by omega)
  have h2 := bk_ix h2 hb2 hK2 hw2 e3 (by omega)
  have hK3 := KS.es hK2 e3
  have hw3 := OWS.es hw2 hK2 e3
  have hwb3 := bck_w hb hw3
  have hs3 := hs2.tr e3 (fun a ha h => ix_mono (ix_old hs2 ha h) (by omega) (by omega))
  unfold f_X1_become_41
  refine r_gP hK3 b1 1 4 (b1 + 28) (bck_o hb) hp.2.2.2.1 ?_
  refine r_gP hK3 b2 1 4 (b2 + 28) (bck_o hb2) hp2.2.2.2.1 ?_
  refine rn_bind (tb_become (by omega) ht.2.2.2 ht2.2.2.2 (by omega) (by omega) hK3 hw3 x4 h2.2.2.2.2.1) (fun s4 hs => ?_)
  obtain ⟨ow4, M4, e4, t4, b4', w4, m4⟩ := hs
  have e4 : ES (IX z ow3 (b1 + 28) (b1 + 28 + 1)) s3 ow3 s4 ow4 := e4.mono (fun a _ h => tx_ix ht.2.2.2 hw3 h)
  have f4 : s4.2.1 (z + b1) 0 = R 0 := by
    rw [((e4.2.2 (z + b1) (by have := hK3.2.1; omega)).2.2.2.2 (nix hwb3.1 hwb3.2 (by omega))).1]
    exact f3
  have t1 := tb_ix t1 hK3 hw3 ht.1 e4 (by omega)
  have t2 := tb_ix t2 hK3 hw3 ht.2.1 e4 (by omega)
  have t3 := tb_ix t3 hK3 hw3 ht.2.2.1 e4 (by omega)
  have x5 := ce_ix x5 hK3 hwb3.1 hwb3.2 e4 (by omega)
  have h2 := bk_ix h2 hb2 hK3 hw3 e4 (by omega)
  have hK4 := KS.es hK3 e4
  have hw4 := OWS.es hw3 hK3 e4
  have hwb4 := bck_w hb hw4
  have hs4 := hs3.tr e4 (fun a ha h => ix_mono (ix_old hs3 ha h) (by omega) (by omega))
  -- facts and partners
  unfold f_X1_become_52
  have a1 : (isA s4.1 (z + (b1 + 34)) 0 ∧ s4.1.2.2.1 (z + (b1 + 34)) = 7) ∧ (isA s4.1 (z + (b2 + 34)) 0 ∧ s4.1.2.2.1 (z + (b2 + 34)) = 7) ∧ (isA s4.1 (z + (b1 + 35)) 0 ∧ s4.1.2.2.1 (z + (b1 + 35)) = 60) ∧ (isA s4.1 (z + (b2 + 35)) 0 ∧ s4.1.2.2.1 (z + (b2 + 35)) = 60) := by
    rcases hb with rfl | rfl <;> rcases hb2 with rfl | rfl <;> exact ⟨ks_a hK4 _ 0 7 (by decide), ks_a hK4 _ 0 7 (by decide), ks_a hK4 _ 0 60 (by decide), ks_a hK4 _ 0 60 (by decide)⟩
  have o34 : ow4 (z + (b1 + 34)) = 0 ∧ ow4 (z + (b1 + 35)) = 0 := by
    rcases hb with rfl | rfl <;> exact ⟨hw4 _ (by decide) (by decide), hw4 _ (by decide) (by decide)⟩
  refine r_gP hK4 b2 1 5 (b2 + 34) (bck_o hb2) hp2.2.2.2.2.1 ?_
  refine r_gP hK4 b1 1 5 (b1 + 34) (bck_o hb) hp.2.2.2.2.1 ?_
  refine rn_eq (cpy_I (sp := 0) (dp := 0) (n := 7) a1.2.1 a1.1 (by omega) (by omega) (by omega) (by omega)) ?_
  refine r_gP hK4 b2 1 6 (b2 + 35) (bck_o hb2) hp2.2.2.2.2.2 ?_
  refine r_gP hK4 b1 1 6 (b1 + 35) (bck_o hb) hp.2.2.2.2.2 ?_
  refine rn_eq (cpy_I (sp := 0) (dp := 0) (n := 60) a1.2.2.2 a1.2.2.1 (by omega) (by omega) (by omega) (by omega)) ?_
  generalize va_cpy (s4.2.1 (z + (b2 + 34))) (s4.2.1 (z + (b1 + 34))) 0 0 7 = F1
  generalize va_cpy ((va_up s4.2.1 (z + (b1 + 34)) F1, s4.2.2).1 (z + (b2 + 35))) ((va_up s4.2.1 (z + (b1 + 34)) F1, s4.2.2).1 (z + (b1 + 35))) 0 0 60 = F2
  have e5 : ES (IX z ow4 (b1 + 34) (b1 + 35)) s4 ow4 (s4.1, (va_up (va_up s4.2.1 (z + (b1 + 34)) F1) (z + (b1 + 35)) F2, s4.2.2)) ow4 := FD.es (sh := s4.1) (d := s4.2) (fun a ha => by
    have q1 : a ≠ z + (b1 + 34) := fun e => ha (by rw [e]; unfold IX; rw [onr_s o34.1 (by rcases hb with rfl | rfl <;> decide)]; omega)
    have q2 : a ≠ z + (b1 + 35) := fun e => ha (by rw [e]; unfold IX; rw [onr_s o34.2 (by rcases hb with rfl | rfl <;> decide)]; omega)
    exact ⟨(va_up_n q2).trans (va_up_n q1), rfl, rfl, rfl⟩)
  have f5 : (va_up (va_up s4.2.1 (z + (b1 + 34)) F1) (z + (b1 + 35)) F2) (z + b1) 0 = R 0 := by
    rw [va_up_n (by omega), va_up_n (by omega)]
    exact f4
  have t1 := tb_ix t1 hK4 hw4 ht.1 e5 (by omega)
  have t2 := tb_ix t2 hK4 hw4 ht.2.1 e5 (by omega)
  have t3 := tb_ix t3 hK4 hw4 ht.2.2.1 e5 (by omega)
  have t4 := tb_ix t4 hK4 hw4 ht.2.2.2 e5 (by omega)
  have x5 := ce_ix x5 hK4 hwb4.1 hwb4.2 e5 (by omega)
  have h2 := bk_ix h2 hb2 hK4 hw4 e5 (by omega)
  have hs5 := hs4.tr e5 (fun a ha h => ix_mono (ix_old hs4 ha h) (by omega) (by omega))
  have hK5 := KS.es hK4 e5
  have c5 : (s4.1, ((va_up (va_up s4.2.1 (z + (b1 + 34)) F1) (z + (b1 + 35)) F2, s4.2.2) : Dt)).1 = s4.1 := rfl
  have f5 : (s4.1, ((va_up (va_up s4.2.1 (z + (b1 + 34)) F1) (z + (b1 + 35)) F2, s4.2.2) : Dt)).2.1 (z + b1) 0 = R 0 := f5
  show Rn ((f_X1_widenCells N (z + b1) (s4.1, (va_up (va_up s4.2.1 (z + (b1 + 34)) F1) (z + (b1 + 35)) F2, s4.2.2))).bind _) _
  generalize (s4.1, ((va_up (va_up s4.2.1 (z + (b1 + 34)) F1) (z + (b1 + 35)) F2, s4.2.2) : Dt)) = s5 at t1 t2 t3 t4 x5 h2 hs5 hK5 c5 f5 ⊢
  -- the cells of readings
  have x5 : CE s5.1 s5.2 z ow4 b1 Lc (inCg R 0) (vC R) := by
    obtain ⟨a, z1, z2, z3, z4, z5, z6⟩ := x5
    exact ⟨a, z1, z2, z3, z4, z5, fun k hk => by obtain ⟨g, h, q, -⟩ := hk; exact absurd q (Nat.not_lt_zero g)⟩
  refine rn_bind (widenCells hb n2 hK5 hw4 t2.1 x5 y5) (fun s6 hs => ?_)
  obtain ⟨ow6, Lc6, e6, g1, g2, g3, w6, m6, i6⟩ := hs
  have f6 : s6.2.1 (z + b1) 0 = R 0 := by
    rw [i6]
    exact f5
  have t1 := tb_ix t1 hK5 hw4 ht.1 e6 (by omega)
  have t2 := tb_ix t2 hK5 hw4 ht.2.1 e6 (by omega)
  have t3 := tb_ix t3 hK5 hw4 ht.2.2.1 e6 (by omega)
  have t4 := tb_ix t4 hK5 hw4 ht.2.2.2 e6 (by omega)
  have h2 := bk_ix h2 hb2 hK5 hw4 e6 (by omega)
  have hs6 := hs5.tr e6 (fun a ha h => ix_mono (ix_old hs5 ha h) (by omega) (by omega))
  have hK6 := KS.es hK5 e6
  have hw6 := OWS.es hw4 hK5 e6
  unfold f_X1_become_86
  refine rn_mono (cells_loop hb hb2 hd hK6 hw6 hN hG g2 h2.2.2.2.2.2.2.1 (nn R 2) 0 N s6.2 (by omega) (by omega) t2 h2.2.2.2.2.2.1 g1) (fun s' hs => ?_)
  obtain ⟨k1, k2, k3, k4, k5⟩ := hs
  have e : s' = (s6.1, s'.2) := Prod.ext k1 rfl
  have k4 := FD.es (sh := s6.1) (ow := ow6) k4
  rw [e]
  refine ⟨ow6, (M1, M2, M3, M4, Lc6), hs6.tr k4 (fun a ha h => ix_mono (ix_old hs6 ha h) (by omega) (by omega)), ⟨?_, tb_ix t1 hK6 hw6 ht.1 k4 (by omega), tb_ix t2 hK6 hw6 ht.2.1 k4 (by omega), tb_ix t3 hK6 hw6 ht.2.2.1 k4 (by omega), tb_ix t4 hK6 hw6 ht.2.2.2 k4 (by omega), k5, g2, ?_⟩, ?_, ?_⟩
  · show s'.2.1 (z + b1) 0 = R 0
    rw [k2]
    exact f6
  · refine ⟨fun c hc => ?_, fun c hc => ?_, fun c hc => ?_, fun c hc => ?_, g3⟩
    · have := b1' c hc
      have := y1 c hc
      show M1 c ≤ 300
      simp only at *
      omega
    · have := b2' c hc
      have := y2 c hc
      show M2 c ≤ 40
      simp only at *
      omega
    · have := b3' c hc
      have := y3 c hc
      show M3 c ≤ 24
      simp only at *
      omega
    · have := b4' c hc
      have := y4 c hc
      show M4 c ≤ 4000
      simp only at *
      omega
  · show s6.1.1.2.2 + 2 * (smN L1 9 + smN L2 3 + smN L3 9 + smN L4 4 + Lc) ≤ s.1.1.2.2 + 2 * (smN M1 9 + smN M2 3 + smN M3 9 + smN M4 4 + Lc6)
    rw [c5] at w6
    simp only at *
    omega
  · show s6.1.1.2.1 + (smN L1 9 + smN L2 3 + smN L3 9 + smN L4 4 + Lc) ≤ s.1.1.2.1 + (smN M1 9 + smN M2 3 + smN M3 9 + smN M4 4 + Lc6)
    rw [c5] at m6
    simp only at *
    omega
end BC
