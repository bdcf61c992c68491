section RW2
variable {s : AS} {sh : Sh} {d d0 : Dt} {z : Nat} {ow : Nat → Nat} {R R' R1 K : Nat → Int32} {u : Bool} {y : YL} {c N g n b : Nat} {q : BL}
theorem bt_congr2 (hN : WN R) (hwd : ∀ i, i < nn R 4 → nn R (9642 + 3 * i) < 150) (h : BT sh d z ow b R q) (e : ∀ j, j < 1426 ∨ 9426 ≤ j → R' j = R j) : BT sh d z ow b R' q := by
  obtain ⟨h0, h1, h2, h3, h4, h6, h7⟩ := h
  have n1 := hN.2.1.2
  have n2 := hN.2.2.1.2
  have en : ∀ j, j < 1426 ∨ 9426 ≤ j → nn R' j = nn R j := fun j hj => by unfold nn; rw [e j hj]
  unfold BT
  rw [e 0 (by omega), en 1 (by omega), en 2 (by omega), en 3 (by omega), en 4 (by omega)]
  refine ⟨h0, tb_congr h1 (fun c' i' hc hi' => e _ (by omega)), tb_congr h2 (fun c' i' hc hi' => e _ (by omega)), tb_congr h3 (fun c' i' hc hi' => ?_), tb_congr h4 (fun c' i' hc hi' => ?_), h6, h7⟩
  · unfold vP
    simp only [e (9426 + 13 * i' + 6) (by omega), e (9426 + 13 * i' + 7) (by omega), e (9426 + 13 * i' + 8) (by omega), e (9426 + 13 * i' + 9) (by omega), e (9426 + 13 * i' + 10) (by omega), e (9426 + 13 * i' + 1) (by omega), e (9426 + 13 * i' + 2) (by omega), e (9426 + 13 * i') (by omega), e (9426 + 13 * i' + 11) (by omega), e (9426 + 13 * i' + 12) (by omega)]
  · have hs := hwd _ hi'
    unfold vD
    rw [en (9642 + 3 * i') (by omega), e (9642 + 3 * i') (by omega), e (9642 + 3 * i' + 1) (by omega), e (9642 + 3 * i' + 2) (by omega), e (16 + 9 * nn R (9642 + 3 * i') + 7) (by omega), e (16 + 9 * nn R (9642 + 3 * i') + 8) (by omega)]
theorem rowF_out (R : Nat → Int32) {b j : Nat} (h : j < 1426 + b ∨ 9426 ≤ j) : ∀ k, b + k ≤ 4000 → rowF R b k j = R j
  | 0, _ => rfl
  | k + 1, hk => by
    show va_up (va_up (rowF R b k) (1426 + (b + k)) 0) (5426 + (b + k)) 0 j = R j
    rw [va_up_n (by omega), va_up_n (by omega)]
    exact rowF_out R h k (by omega)
/-- the cells of all rows but g's, and the first k of g's -/
def inR (R : Nat → Int32) (g k j : Nat) : Prop := j < 4000 ∧ ((inC R j ∧ ¬ (200 * g ≤ j ∧ j < 200 * g + 200)) ∨ (200 * g ≤ j ∧ j < 200 * g + k))
theorem lay_loop {Lc : Nat} (hK : KS sh z) (hg : g < nn R 2) (hn : n ≤ 200) (hN : WN R) (hL : nn R 2 * 200 ≤ Lc) (ht : TB sh d0 z ow 15 3 (nn R 2) (vG R1) q.2.1) : ∀ (m k fu : Nat) (d : Dt), k + m = n → m < fu → d.1 = d0.1 → d.2.2 = d0.2.2 → (∀ a, ow a ≠ 16 * 3 + 1 → d.2.1 a = d0.2.1 a) → CE sh d z ow 3 Lc (inR R g k) (vC (rowF R1 (200 * g) k)) → Rn (f_X1_lay_12 N sh fu (z + 3) (nI g) (nI n) (nI k) d) (fun d' => d'.1 = d0.1 ∧ d'.2.2 = d0.2.2 ∧ (∀ a, ow a ≠ 16 * 3 + 1 → d'.2.1 a = d0.2.1 a) ∧ CE sh d' z ow 3 Lc (inR R g n) (vC (rowF R1 (200 * g) n)))
  | 0, k, fu, d, hk, hf, h1, h2, h3, hc => by
    obtain ⟨fu, rfl⟩ : ∃ q, fu = q + 1 := ⟨fu - 1, by omega⟩
    show Rn (g_X1_lay_12 N sh (f_X1_lay_12 N sh fu) (z + 3) (nI g) (nI n) (nI k) d) _
    unfold g_X1_lay_12 f_X1_lay_30
    refine rn_t ((nI_leI (by omega) (by omega)).mpr (by omega)) ?_
    have ek : k = n := by omega
    subst ek
    exact rn_some ⟨h1, h2, h3, hc⟩
  | m + 1, k, fu, d, hk, hf, h1, h2, h3, hc => by
    obtain ⟨fu, rfl⟩ : ∃ q, fu = q + 1 := ⟨fu - 1, by omega⟩
    have n2 := hN.2.2.1.2
    have ih := lay_loop hK hg hn hN hL ht m (k + 1) fu
    show Rn (g_X1_lay_12 N sh (f_X1_lay_12 N sh fu) (z + 3) (nI g) (nI n) (nI k) d) _
    unfold g_X1_lay_12
    refine rn_f (nI_ge (by omega) (by omega)) ?_
    have ht2 : TB sh d z ow 15 3 (nn R 2) (vG R1) q.2.1 := by
      unfold TB at ht ⊢
      rw [h1, h2]
      exact ht
    refine rn_bind (k_setCell (b := 3) (q := q) (R' := R1) (Or.inl rfl) hK hN ht2 hc hL hg (by omega)) (fun d1 hd => ?_)
    obtain ⟨a, rfl, q1, q2, hce⟩ := hd
    rw [nI_1]
    refine ih _ (by omega) (by omega) h1 h2 (fun x hx => ?_) ?_
    · show up2 d.2.1 a (200 * g + k) 0 x = _
      rw [up2_n (fun e => hx (by rw [e]; exact q2))]
      exact h3 x hx
    · obtain ⟨a', z1, z2, z3, z4, z5, z6⟩ := hce
      refine ⟨a', z1, z2, z3, z4, z5, fun j hj => ?_⟩
      obtain ⟨j1, j2⟩ := hj
      have hp : inR R g k j ∨ j = 200 * g + k := by
        rcases j2 with j2 | j2
        · exact Or.inl ⟨j1, Or.inl j2⟩
        · by_cases e : j = 200 * g + k
          · exact Or.inr e
          · exact Or.inl ⟨j1, Or.inr ⟨j2.1, by omega⟩⟩
      have r := z6 j hp
      refine ⟨r.1, r.2.trans ?_⟩
      have er : rowF R1 (200 * g) (k + 1) = va_up (va_up (rowF R1 (200 * g) k) (1426 + (200 * g + k)) 0) (5426 + (200 * g + k)) 0 := rfl
      rw [er]
      show (if j = 200 * g + k then (0 : Int64) else vC (rowF R1 (200 * g) k) j) = _
      unfold vC
      by_cases e : j = 200 * g + k
      · rw [if_pos e, e, va_up_s, va_up_n (by omega), va_up_s]
        rfl
      · rw [if_neg e]
        have x1 : va_up (va_up (rowF R1 (200 * g) k) (1426 + (200 * g + k)) 0) (5426 + (200 * g + k)) 0 (5426 + j) = rowF R1 (200 * g) k (5426 + j) := by rw [va_up_n (by omega), va_up_n (by omega)]
        have x2 : va_up (va_up (rowF R1 (200 * g) k) (1426 + (200 * g + k)) 0) (5426 + (200 * g + k)) 0 (1426 + j) = rowF R1 (200 * g) k (1426 + j) := by rw [va_up_n (by omega), va_up_n (by omega)]
        rw [x1, x2]
theorem k_row {x n : Int32} (hNf : 300 ≤ N) (h : CI s z ow R K u y c) (hR : WF R) (hKF : WF K) : Rn (f_X11_row N z x n s) (KO z R K u c (sp_row R x n) s) := by
  have hK := h.1
  have n2 := hR.1.2.2.1.2
  have ht : tck 15 3 = true := by decide
  have hB : BK s.1 s.2 z ow 3 R y.1 := h.2.2.1
  unfold f_X11_row f_X11_row_21
  refine rn_t (ks_o hK 0 11 rfl) ?_
  refine r_gP hK 0 11 1 3 rfl (by decide) ?_
  refine r_gP hK 3 1 2 15 rfl (by decide) ?_
  refine rn_eq (tb_has (o := 15) (nc := 3) hK ht hB.2.2.1) ?_
  by_cases hb : x < 0 ∨ nI (nn R 2) ≤ x
  · rw [show sp_row R x n = _ from if_pos hb]
    refine rn_t (ite01.mpr hb) ?_
    refine rn_bind (k_refuse hK) (fun r hr => rn_some ?_)
    exact ko_lg h hr rfl
  rw [show sp_row R x n = _ from if_neg hb]
  refine rn_f (fun q => hb (ite01.mp q)) ?_
  by_cases h1 : n ≤ 200
  · refine rn_t h1 ?_
    rw [if_pos h1]
    by_cases h0 : 0 ≤ n
    · refine rn_t h0 ?_
      rw [if_pos h0]
      obtain ⟨g, hg, rfl, e2⟩ := st_of (by omega) hb
      obtain ⟨m, hm, rfl, e3⟩ := st_of (x := n) (n := 201) (by omega) (fun r => r.elim (Int32.not_lt.mpr h0) (fun r => absurd (Int32.le_trans r h1) (by decide)))
      rw [e2, e3]
      refine rn_bind (ci_change (by omega) h hR.1 hR.2.1 hKF.1) (fun s1 hs => ?_)
      obtain ⟨f1, g1, g2, g3, ow1, y1, -, c1⟩ := hs
      have hK1 := c1.1
      have hw1 := c1.2.1
      have hB1 : BK s1.1 s1.2 z ow1 3 R y1.1 := c1.2.2.1
      unfold f_X11_row_43
      refine r_gP hK1 0 11 1 3 rfl (by decide) ?_
      have hN1 : WN (va_up R (1366 + 3 * g + 2) (nI m)) := wn_up hR.1 (by omega)
      have hwd : ∀ i, i < nn (va_up R (1366 + 3 * g + 2) (nI m)) 4 → nn (va_up R (1366 + 3 * g + 2) (nI m)) (9642 + 3 * i) < 150 := fun i hi => by
        rw [nn_up (by omega)] at hi ⊢
        exact wd_nn hR hi
      refine rn_bind (P := fun d2 => FD (IX z ow1 3 16) s1.2 d2 ∧ BK s1.1 d2 z ow1 3 (rowF (va_up R (1366 + 3 * g + 2) (nI m)) (200 * g) m) y1.1) ?_ (fun d2 hd2 => ?_)
      · unfold f_X1_lay
        refine rn_t (ks_o hK1 3 1 rfl) ?_
        refine r_gP hK1 3 1 2 15 rfl (by decide) ?_
        refine rn_bind (tb_put (o := 15) (nc := 3) (c := 2) hK1 hw1 ht hB1.2.2.1 rfl hg rfl (by decide)) (fun d1 hd => ?_)
        have hbt := bt_upG (b := 3) (Or.inl rfl) hK1 hw1 hR hB1.bt.1 hg (k := 2) (by decide) hd.1 hd.2
        have hfx : FD (IX z ow1 15 16) s1.2 d1 := hd.2.mono (fun a ha => tx_ix ht hw1 ha)
        have hce : CE s1.1 d1 z ow1 3 y1.1.2.2.2.2 (inC R) (vC R) := ce_ix (s := (s1.1, s1.2)) hB1.bt.2 hK1 (hw1 3 (by decide) (by decide)) (by decide) (hfx.es (sh := s1.1)) (by omega)
        have hce0 : CE s1.1 d1 z ow1 3 y1.1.2.2.2.2 (inR R g 0) (vC (rowF (va_up R (1366 + 3 * g + 2) (nI m)) (200 * g) 0)) := by
          obtain ⟨a, z1, z2, z3, z4, z5, z6⟩ := hce
          refine ⟨a, z1, z2, z3, z4, z5, fun k hk => ?_⟩
          obtain ⟨k1, k2 | k2⟩ := hk
          · have r := z6 k k2.1
            refine ⟨r.1, r.2.trans ?_⟩
            show _ = vC (va_up R (1366 + 3 * g + 2) (nI m)) k
            unfold vC
            rw [va_up_n (by omega), va_up_n (by omega)]
          · omega
        have ht1 : TB s1.1 d1 z ow1 15 3 (nn R 2) (vG (va_up R (1366 + 3 * g + 2) (nI m))) y1.1.2.1 := by
          have r := hbt.2.2.1
          rw [nn_up (by omega)] at r
          exact r
        refine rn_mono (lay_loop (q := y1.1) (d0 := d1) (n := m) hK1 hg (by omega) hR.1 hB1.bt.1.2.2.2.2.2.1 ht1 m 0 N d1 (by omega) (by omega) rfl rfl (fun _ _ => rfl) hce0) (fun d2 hd2 => ?_)
        obtain ⟨w1, w2, w3, w4⟩ := hd2
        refine ⟨fun a ha => ?_, ?_⟩
        · have r := hfx a (fun q => ha (ix_mono q (by omega) (by omega)))
          refine ⟨by rw [w1]; exact r.1, ?_, by rw [w2]; exact r.2.2.1, by rw [w2]; exact r.2.2.2⟩
          rw [w3 a (fun e => ha (by unfold IX; rw [onr_r (o := 3) (k := 0) e (by omega)]; omega))]
          exact r.2.1
        · have hbt2 : BT s1.1 d2 z ow1 3 (va_up R (1366 + 3 * g + 2) (nI m)) y1.1 := by
            unfold BT TB at hbt ⊢
            rw [w1, w2]
            exact hbt
          have hbt3 := bt_congr2 (R' := rowF (va_up R (1366 + 3 * g + 2) (nI m)) (200 * g) m) hN1 hwd hbt2 (fun j hj => rowF_out _ (by omega) m (by omega))
          refine hbt3.bk ?_
          obtain ⟨a, z1, z2, z3, z4, z5, z6⟩ := w4
          refine ⟨a, z1, z2, z3, z4, z5, fun k hk => z6 k ?_⟩
          obtain ⟨g', h', r1, r2, r3⟩ := hk
          have en : ∀ j, j < 1426 → nn (rowF (va_up R (1366 + 3 * g + 2) (nI m)) (200 * g) m) j = nn (va_up R (1366 + 3 * g + 2) (nI m)) j := fun j hj => by unfold nn; rw [rowF_out _ (by omega) m (by omega)]
          rw [en 2 (by omega), nn_up (by omega)] at r1
          rw [en _ (by omega)] at r2
          by_cases e : g' = g
          · subst e
            have : nn (va_up R (1366 + 3 * g' + 2) (nI m)) (1366 + 3 * g' + 2) = m := by
              unfold nn
              rw [va_up_s]
              exact nI_clamp (by omega)
            rw [this] at r2
            exact ⟨by omega, Or.inr ⟨by omega, by omega⟩⟩
          · rw [nn_up (by omega)] at r2
            have b2 := (hR.2.1 g' r1).2
            exact ⟨by omega, Or.inl ⟨⟨g', h', r1, r2, r3⟩, by omega⟩⟩
      · have qn := ci_new c1 g1 g2 g3 (hd2.1.mono (fun a ha => ix_mono ha (by omega) (by omega))) hd2.2 (pb_congr c1.2.2.2.2.2.1 (by rw [rowF_out _ (by omega) m (by omega)]; exact va_up_n (by omega)) (fun j hj => by rw [rowF_out _ (by omega) m (by omega)]; exact va_up_n (by omega)))
        refine rn_bind (k_answer hK1) (fun r hr => rn_some ?_)
        have q2 := ci_lg qn.1 hr.2
        exact ⟨hr.1, (f1.tr qn.2).tr q2.2, ow1, y1, q2.1⟩
    · refine rn_f h0 ?_
      rw [if_neg h0]
      refine rn_bind (k_refuse hK) (fun r hr => rn_some ?_)
      exact ko_lg h hr rfl
  · refine rn_f h1 ?_
    rw [if_neg h1]
    refine rn_bind (k_refuse hK) (fun r hr => rn_some ?_)
    exact ko_lg h hr rfl
end RW2
