/-! round() of the reference -/
/-- the books with a new ROUND; what only readers see (JOININGS, PARTNERS ..) is left open -/
def RND (R : Nat → Int32) (l : List (Nat × Nat × Nat)) (R' : Nat → Int32) : Prop := (∀ k, k < 4 ∨ (8 < k ∧ k < 9426) → R' k = R k) ∧ R' 4 = nI l.length ∧ (∀ i, i < l.length → R' (9642 + 3 * i) = nI (l.getD i (0, 0, 0)).1 ∧ R' (9642 + 3 * i + 1) = nI (l.getD i (0, 0, 0)).2.1 ∧ R' (9642 + 3 * i + 2) = nI (l.getD i (0, 0, 0)).2.2) ∧ ∀ p, p < nn R 3 → ∀ x, x < 13 → R' (9426 + 13 * p + x) = if 5 ≤ x then 0 else R (9426 + 13 * p + x)
noncomputable def rdR (R : Nat → Int32) : Int32 × List (Nat × Nat × Nat) := @ite _ (BW R) (Classical.propDecidable _) (pbR R) (nbR R)
def RP (d : Dt) (z : Nat) (R : Nat → Int32) (n : Nat) : Prop := RI d z (d.1 (z + 243)) R true ∧ (∀ k, k < 4 ∨ (8 < k ∧ k < 9582) → d.1 (z + 243) k = R k) ∧ d.1 (z + 243) 4 = nI n
/-- a DRIVE stands in the books -/
def DRs (A : Nat → Int32) (l : List (Nat × Nat × Nat)) (i : Nat) : Prop := A (9642 + 3 * i) = nI (l.getD i (0, 0, 0)).1 ∧ A (9642 + 3 * i + 1) = nI (l.getD i (0, 0, 0)).2.1 ∧ A (9642 + 3 * i + 2) = nI (l.getD i (0, 0, 0)).2.2
section RO9
variable {sh : Sh} {d d0 d' : Dt} {z : Nat} {R R1 R2 K : Nat → Int32} {u : Bool} {N n m k i c p q x g : Nat} {l : List (Nat × Nat × Nat)} {Q : Int32 × Dt → Prop}
theorem ri_ag (h : RI d z R1 K u) (hN : nn R1 1 ≤ 150) (e : AG R1 R2) : RI d z R2 K u := by
  obtain ⟨h1, h2, h3, h4, h6⟩ := h
  have e0 : nn R2 0 = nn R1 0 := by unfold nn; rw [e 0 (by decide)]
  have hg : GEQ R1 R2 := ⟨e0, by unfold nn; rw [e 1 (by decide)], fun s k hs q1 q2 => (e _ (by omega)).symm⟩
  refine ⟨fun k hk => (h1 k hk).trans (e k hk), h2, h3, h4, ?_⟩
  rcases h6 with h6 | h6
  · exact Or.inl h6
  · exact Or.inr ⟨h6.1, fun a b ha hb => hg.dOK (h6.2 a b (by rw [← e0]; exact ha) (by rw [← e0]; exact hb))⟩
theorem rp_wn (h : RP d z R n) (hN : WN R) (hn : n ≤ 2000) : WN (d.1 (z + 243)) := by
  obtain ⟨-, h1, h2⟩ := h
  have e : ∀ k, k < 4 → nn (d.1 (z + 243)) k = nn R k := fun k hk => by unfold nn; rw [h1 k (Or.inl hk)]
  have e4 : nn (d.1 (z + 243)) 4 = n := by unfold nn; rw [h2, nI_clamp (by omega)]
  unfold WN
  rw [e 0 (by omega), e 1 (by omega), e 2 (by omega), e 3 (by omega), e4, h1 0 (by omega), h1 1 (by omega), h1 2 (by omega), h1 3 (by omega), h2]
  exact ⟨hN.1, hN.2.1, hN.2.2.1, hN.2.2.2.1, rfl, hn⟩
theorem rp_w {j : Nat} {v : Int32} (h : RP d z R n) (hN : WN R) (hn : n ≤ 2000) (hj : 9582 ≤ j) : RP (wI d (z + 243) j v) z R n := by
  have hw := rp_wn h hN hn
  obtain ⟨h0, h1, h2⟩ := h
  unfold RP
  rw [wI_s]
  refine ⟨ri_cellG h0 hw (by omega) (fun s k a b e => by omega), fun k hk => ?_, ?_⟩
  · rw [va_up_n (by omega)]
    exact h1 k hk
  · rw [va_up_n (by omega)]
    exact h2
theorem rd_all {n9 : Nat} (hK : KS sh z) (hN : WN R) (hn : n9 ≤ 2000) (hl : l.length = n9) (hk : ∀ d', W43 z d0 d' → RI d' z (d'.1 (z + 243)) R true → RND R l (d'.1 (z + 243)) → Rn (f_X12_round_319 N sh (z + 242) d') Q) (hN1 : 300 ≤ N) : ∀ (m p fu : Nat) (d : Dt), p + m = nn R 3 → m < fu → W43 z d0 d → RI d z (d.1 (z + 243)) R true → (∀ k, k < 4 ∨ (8 < k ∧ k < 9426) → d.1 (z + 243) k = R k) → d.1 (z + 243) 4 = nI n9 → (∀ i, i < n9 → DRs (d.1 (z + 243)) l i) → (∀ p', p' < nn R 3 → ∀ x, x < 13 → d.1 (z + 243) (9426 + 13 * p' + x) = if p' < p ∧ 5 ≤ x then 0 else R (9426 + 13 * p' + x)) → Rn (f_X12_round_298 N sh fu (z + 242) (nI p) d) Q
  | m, p, fu, d, hc, hf, hW, hI, h1, h4, hd, hp => by
    obtain ⟨fu, rfl⟩ : ∃ q, fu = q + 1 := ⟨fu - 1, by omega⟩
    have n3 := hN.2.2.2.1
    show Rn (g_X12_round_298 N sh (f_X12_round_298 N sh fu) (z + 242) (nI p) d) _
    unfold g_X12_round_298
    refine rdg hK (R := d.1 (z + 243)) (fun k _ => rfl) 3 rfl (by decide) ?_
    rw [h1 3 (by omega), n3.1]
    cases m with
    | zero =>
      refine rn_t (nI_le (by omega) (by omega)) ?_
      refine hk d hW hI ⟨h1, by rw [hl]; exact h4, fun i hi => hd i (by omega), fun p' hp' x hx => ?_⟩
      rw [hp p' hp' x hx]
      by_cases h5 : 5 ≤ x
      · rw [if_pos ⟨by omega, h5⟩, if_pos h5]
      · rw [if_neg (fun q => h5 q.2), if_neg h5]
    | succ m =>
      refine rn_f (nI_ge (by omega) (by omega)) ?_
      have wn : WN (d.1 (z + 243)) := by
        have e : ∀ k, k < 4 → nn (d.1 (z + 243)) k = nn R k := fun k hk => by unfold nn; rw [h1 k (Or.inl hk)]
        have e4 : nn (d.1 (z + 243)) 4 = n9 := by unfold nn; rw [h4, nI_clamp (by omega)]
        unfold WN
        rw [e 0 (by omega), e 1 (by omega), e 2 (by omega), e 3 (by omega), e4, h1 0 (by omega), h1 1 (by omega), h1 2 (by omega), h1 3 (by omega), h4]
        exact ⟨hN.1, hN.2.1, hN.2.2.1, hN.2.2.2.1, rfl, hn⟩
      refine rn_bind (m_losesPart2 (by omega) hK wn (by omega) hI) (fun d2 h2 => ?_)
      obtain ⟨w2, i2⟩ := h2
      have ea : ∀ k, k < 15642 → d2.1 (z + 243) k = lpR (d.1 (z + 243)) p k := i2.1
      have e11 : nn (lpR (d.1 (z + 243)) p) 1 = nn (d.1 (z + 243)) 1 := by unfold nn; rw [lpR_n (by omega)]
      rw [nI_1]
      refine rd_all hK hN hn hl hk hN1 m (p + 1) fu d2 (by omega) (by omega) (hW.tr w2) (ri_ag i2 (by rw [e11]; exact wn.2.1.2) (fun k hk => (ea k hk).symm)) (fun k hk => ?_) ?_ (fun i hi => ?_) (fun p' hp' x hx => ?_)
      · rw [ea k (by omega), lpR_n (by omega)]
        exact h1 k hk
      · rw [ea 4 (by omega), lpR_n (by omega)]
        exact h4
      · obtain ⟨q1, q2, q3⟩ := hd i hi
        unfold DRs
        rw [ea _ (by omega), lpR_n (by omega), ea _ (by omega), lpR_n (by omega), ea _ (by omega), lpR_n (by omega)]
        exact ⟨q1, q2, q3⟩
      · rw [ea _ (by omega)]
        by_cases ep : p' = p
        · subst ep
          by_cases h5 : 5 ≤ x
          · rw [if_pos ⟨by omega, h5⟩]
            exact zr_in (by omega)
          · rw [if_neg (fun q => h5 q.2), lpR_n (by omega), hp p' hp' x hx, if_neg (fun q => h5 q.2)]
        · rw [lpR_n (by omega), hp p' hp' x hx]
          by_cases h5 : p' < p ∧ 5 ≤ x
          · rw [if_pos h5, if_pos ⟨by omega, h5.2⟩]
          · rw [if_neg h5, if_neg (fun q => h5 ⟨by omega, q.2⟩)]
theorem rd_drv {n9 : Nat} (hK : KS sh z) (hN : WN R) (hn : n9 ≤ 2000) (hl : l.length = n9) (hD : DRl z d0 l) (hk : ∀ d', W43 z d0 d' → RP d' z R n9 → (∀ i, i < n9 → DRs (d'.1 (z + 243)) l i) → Rn (f_X12_round_296 N sh (z + 242) d') Q) : ∀ (m i fu : Nat) (d : Dt), i + m = n9 → m < fu → W43 z d0 d → RP d z R n9 → (∀ i', i' < i → DRs (d.1 (z + 243)) l i') → Rn (f_X12_round_224 N sh fu (z + 242) (nI i) d) Q
  | m, i, fu, d, hc, hf, hW, hI, hd => by
    obtain ⟨fu, rfl⟩ : ∃ q, fu = q + 1 := ⟨fu - 1, by omega⟩
    show Rn (g_X12_round_224 N sh (f_X12_round_224 N sh fu) (z + 242) (nI i) d) _
    have e2 : d.1 (z + 242) = d0.1 (z + 242) := hW.2 _ (by omega)
    have e7 : d.1 (z + 257) = d0.1 (z + 257) := hW.2 _ (by omega)
    have e8 : d.1 (z + 258) = d0.1 (z + 258) := hW.2 _ (by omega)
    have e9 : d.1 (z + 259) = d0.1 (z + 259) := hW.2 _ (by omega)
    unfold g_X12_round_224
    refine r_gI hK (i := 242) (c := 12) rfl ?_
    rw [e2, hD.1, hl]
    cases m with
    | zero =>
      refine rn_t (nI_le (by omega) (by omega)) ?_
      have e : i = n9 := by omega
      rw [e] at hd
      exact hk d hW hI hd
    | succ m =>
      refine rn_f (nI_ge (by omega) (by omega)) ?_
      have hi : i < l.length := by omega
      obtain ⟨q1, q2, q3⟩ := hD.2 i hi (by omega)
      have hA := ks_a hK 243 0 15642 rfl
      refine r_gP hK 242 12 0 243 rfl (by decide) ?_
      refine r_gP hK 242 12 25 257 rfl (by decide) ?_
      refine rn_eq (q_aT (ks_a hK 257 0 2000 rfl) i rfl (by omega) (by decide)) ?_
      refine rn_eq (q_sI hA (9642 + 3 * i) (ix_dr0 i) (by omega) (by decide)) ?_
      refine r_gP hK 242 12 0 243 rfl (by decide) ?_
      refine r_gP hK 242 12 26 258 rfl (by decide) ?_
      refine rn_eq (q_aT (ks_a hK 258 0 2000 rfl) i rfl (by omega) (by decide)) ?_
      refine rn_eq (q_sI hA (9642 + 3 * i + 1) (ix_dr i 1) (by omega) (by decide)) ?_
      refine r_gP hK 242 12 0 243 rfl (by decide) ?_
      refine r_gP hK 242 12 27 259 rfl (by decide) ?_
      refine rn_eq (q_aT (ks_a hK 259 0 2000 rfl) i rfl (by omega) (by decide)) ?_
      refine rn_eq (q_sI hA (9642 + 3 * i + 2) (ix_dr i 2) (by omega) (by decide)) ?_
      rw [wI_n (show z + 259 ≠ z + 243 by omega), wI_n (show z + 259 ≠ z + 243 by omega), wI_n (show z + 258 ≠ z + 243 by omega), e7, e8, e9, q1, q2, q3, nI_1]
      have f2 := rp_w (v := nI (l.getD i (0, 0, 0)).2.2) (j := 9642 + 3 * i + 2) (rp_w (v := nI (l.getD i (0, 0, 0)).2.1) (j := 9642 + 3 * i + 1) (rp_w (v := nI (l.getD i (0, 0, 0)).1) (j := 9642 + 3 * i) hI hN hn (by omega)) hN hn (by omega)) hN hn (by omega)
      refine rd_drv hK hN hn hl hD hk m (i + 1) fu _ (by omega) (by omega) hW.w.w.w f2 (fun i' hi' => ?_)
      unfold DRs
      rw [wI_s, wI_s, wI_s]
      by_cases ei : i' = i
      · subst ei
        refine ⟨?_, ?_, ?_⟩
        · rw [va_up_n (by omega), va_up_n (by omega), va_up_s]
        · rw [va_up_n (by omega), va_up_s]
        · rw [va_up_s]
      · obtain ⟨y1, y2, y3⟩ := hd i' (by omega)
        refine ⟨?_, ?_, ?_⟩
        · rw [va_up_n (by omega), va_up_n (by omega), va_up_n (by omega)]
          exact y1
        · rw [va_up_n (by omega), va_up_n (by omega), va_up_n (by omega)]
          exact y2
        · rw [va_up_n (by omega), va_up_n (by omega), va_up_n (by omega)]
          exact y3
theorem ix_pt (a : Nat) : (9582 : Int32) + nI a = nI (9582 + a) := nI_add 9582 a
theorem rd_prt {n9 : Nat} (hK : KS sh z) (hN : WN R) (hn : n9 ≤ 2000) (hg : g ≤ 30) (h21 : d0.1 (z + 242) 21 = nI g) (hP : ∀ k, k < g → ∃ a b, a < 60 ∧ b < 60 ∧ d0.1 (z + 255) k = nI a ∧ d0.1 (z + 256) k = nI b) (hk : ∀ d', W43 z d0 d' → RP d' z R n9 → Rn (f_X12_round_222 N sh (z + 242) d') Q) : ∀ (m i fu : Nat) (d : Dt), i + m = g → m < fu → W43 z d0 d → RP d z R n9 → Rn (f_X12_round_166 N sh fu (z + 242) (nI i) d) Q
  | m, i, fu, d, hc, hf, hW, hI => by
    obtain ⟨fu, rfl⟩ : ∃ q, fu = q + 1 := ⟨fu - 1, by omega⟩
    show Rn (g_X12_round_166 N sh (f_X12_round_166 N sh fu) (z + 242) (nI i) d) _
    have e2 : d.1 (z + 242) = d0.1 (z + 242) := hW.2 _ (by omega)
    have e5 : d.1 (z + 255) = d0.1 (z + 255) := hW.2 _ (by omega)
    have e6 : d.1 (z + 256) = d0.1 (z + 256) := hW.2 _ (by omega)
    unfold g_X12_round_166
    refine r_gI hK (i := 242) (c := 12) rfl ?_
    rw [e2, h21]
    cases m with
    | zero =>
      refine rn_t (nI_le (by omega) (by omega)) ?_
      exact hk d hW hI
    | succ m =>
      refine rn_f (nI_ge (by omega) (by omega)) ?_
      obtain ⟨a, b, ha, hb, p1, p2⟩ := hP i (by omega)
      have hA := ks_a hK 243 0 15642 rfl
      refine r_gP hK 242 12 0 243 rfl (by decide) ?_
      refine r_gP hK 242 12 22 255 rfl (by decide) ?_
      refine rn_eq (q_aT (ks_a hK 255 0 30 rfl) i rfl (by omega) (by decide)) ?_
      refine r_gP hK 242 12 23 256 rfl (by decide) ?_
      refine rn_eq (q_aT (ks_a hK 256 0 30 rfl) i rfl (by omega) (by decide)) ?_
      rw [e5, e6, p1, p2]
      refine rn_eq (q_sI hA (9582 + a) (ix_pt a) (by omega) (by decide)) ?_
      refine r_gP hK 242 12 0 243 rfl (by decide) ?_
      refine r_gP hK 242 12 23 256 rfl (by decide) ?_
      refine rn_eq (q_aT (ks_a hK 256 0 30 rfl) i rfl (by omega) (by decide)) ?_
      refine r_gP hK 242 12 22 255 rfl (by decide) ?_
      refine rn_eq (q_aT (ks_a hK 255 0 30 rfl) i rfl (by omega) (by decide)) ?_
      rw [wI_n (show z + 256 ≠ z + 243 by omega), wI_n (show z + 255 ≠ z + 243 by omega), e5, e6, p1, p2]
      refine rn_eq (q_sI hA (9582 + b) (ix_pt b) (by omega) (by decide)) ?_
      rw [nI_1]
      exact rd_prt hK hN hn hg h21 hP hk m (i + 1) fu _ (by omega) (by omega) hW.w.w (rp_w (rp_w hI hN hn (by omega)) hN hn (by omega))
theorem rd_non {n9 : Nat} (hK : KS sh z) (hN : WN R) (hn : n9 ≤ 2000) (hk : ∀ d', W43 z d0 d' → RP d' z R n9 → Rn (f_X12_round_164 N sh (z + 242) d') Q) : ∀ (m i fu : Nat) (d : Dt), i + m = 60 → m < fu → W43 z d0 d → RP d z R n9 → Rn (f_X12_round_141 N sh fu (z + 242) (nI i) d) Q
  | 0, i, fu, d, hc, hf, hW, hI => by
    obtain ⟨fu, rfl⟩ : ∃ q, fu = q + 1 := ⟨fu - 1, by omega⟩
    show Rn (g_X12_round_141 N sh (f_X12_round_141 N sh fu) (z + 242) (nI i) d) _
    unfold g_X12_round_141
    refine rn_t (nI_le (a := 60) (by omega) (by omega)) ?_
    exact hk d hW hI
  | m + 1, i, fu, d, hc, hf, hW, hI => by
    obtain ⟨fu, rfl⟩ : ∃ q, fu = q + 1 := ⟨fu - 1, by omega⟩
    show Rn (g_X12_round_141 N sh (f_X12_round_141 N sh fu) (z + 242) (nI i) d) _
    unfold g_X12_round_141
    refine rn_f (nI_ge (b := 60) (by omega) (by decide)) ?_
    refine r_gP hK 242 12 0 243 rfl (by decide) ?_
    refine rn_eq (q_sI (ks_a hK 243 0 15642 rfl) (9582 + i) (ix_pt i) (by omega) (by decide)) ?_
    rw [nI_1]
    exact rd_non hK hN hn hk m (i + 1) fu _ (by omega) (by omega) hW.w (rp_w hI hN hn (by omega))
/-- the outcome -/
def RDO (z : Nat) (R K : Nat → Int32) (u : Bool) (o : Int32 × List (Nat × Nat × Nat)) (d : Dt) (r : Int32 × Dt) : Prop := (o.1 ≠ 0 ∧ RO z R K u (o.1, none) d r) ∨ (o.1 = 0 ∧ ∃ R', RND R o.2 R' ∧ RO z R K u (nI o.2.length, some R') d r)
theorem ri_cell5 {j : Nat} {v : Int32} (h : RI d z (d.1 (z + 243)) R true) (hN : WN (d.1 (z + 243))) (hj : 2 ≤ j) (hj2 : j < 16) : RI (wI d (z + 243) j v) z ((wI d (z + 243) j v).1 (z + 243)) R true := by
  rw [wI_s]
  exact ri_cellG h hN hj (fun s k a b e => by omega)
theorem m_round105 {v : Int32} (hN1 : 3000 ≤ N) (hK : KS sh z) (hN : WN R) (hn : l.length ≤ 2000) (hD : DRl z d l) (hg : g ≤ 30) (h21 : d.1 (z + 242) 21 = nI g) (hP : ∀ k, k < g → ∃ a b, a < 60 ∧ b < 60 ∧ d.1 (z + 255) k = nI a ∧ d.1 (z + 256) k = nI b) (hI : RI d z (d.1 (z + 243)) R true) (hA : ∀ k, k < 4 ∨ (4 < k ∧ k < 9582) → d.1 (z + 243) k = R k) (h4 : d.1 (z + 243) 4 = nI l.length) : Rn (f_X12_round_105 N sh (z + 242) (z + 243) 5 v d) (fun r => r.1 = nI l.length ∧ MFR z d r.2 ∧ RI r.2 z (r.2.1 (z + 243)) R true ∧ RND R l (r.2.1 (z + 243))) := by
  have hS := ks_a hK 243 0 15642 rfl
  have n3 := hN.2.2.2.1.2
  have wn : ∀ d' : Dt, (∀ k, k < 4 → d'.1 (z + 243) k = R k) → d'.1 (z + 243) 4 = nI l.length → WN (d'.1 (z + 243)) := fun d' h1 h4 => by
    have e : ∀ k, k < 4 → nn (d'.1 (z + 243)) k = nn R k := fun k hk => by unfold nn; rw [h1 k hk]
    have e4 : nn (d'.1 (z + 243)) 4 = l.length := by unfold nn; rw [h4, nI_clamp (by omega)]
    unfold WN
    rw [e 0 (by omega), e 1 (by omega), e 2 (by omega), e 3 (by omega), e4, h1 0 (by omega), h1 1 (by omega), h1 2 (by omega), h1 3 (by omega), h4]
    exact ⟨hN.1, hN.2.1, hN.2.2.1, hN.2.2.2.1, rfl, hn⟩
  have nx : ∀ {d' : Dt} {j : Nat} {w : Int32}, 5 ≤ j → j < 9 → RI d' z (d'.1 (z + 243)) R true ∧ (∀ k, k < 4 → d'.1 (z + 243) k = R k) ∧ d'.1 (z + 243) 4 = nI l.length ∧ (∀ k, 8 < k → k < 9582 → d'.1 (z + 243) k = R k) → RI (wI d' (z + 243) j w) z ((wI d' (z + 243) j w).1 (z + 243)) R true ∧ (∀ k, k < 4 → (wI d' (z + 243) j w).1 (z + 243) k = R k) ∧ (wI d' (z + 243) j w).1 (z + 243) 4 = nI l.length ∧ (∀ k, 8 < k → k < 9582 → (wI d' (z + 243) j w).1 (z + 243) k = R k) := fun {d' j w} h5 h9 h => by
    refine ⟨ri_cell5 h.1 (wn d' h.2.1 h.2.2.1) (by omega) (by omega), fun k hk => ?_, ?_, fun k hk hk2 => ?_⟩
    · rw [wI_s, va_up_n (by omega)]
      exact h.2.1 k hk
    · rw [wI_s, va_up_n (by omega)]
      exact h.2.2.1
    · rw [wI_s, va_up_n (by omega)]
      exact h.2.2.2 k hk hk2
  have s0 : RI d z (d.1 (z + 243)) R true ∧ (∀ k, k < 4 → d.1 (z + 243) k = R k) ∧ d.1 (z + 243) 4 = nI l.length ∧ (∀ k, 8 < k → k < 9582 → d.1 (z + 243) k = R k) := ⟨hI, fun k hk => hA k (Or.inl hk), h4, fun k h1 h2 => hA k (Or.inr ⟨by omega, h2⟩)⟩
  have ef : ∀ {d' : Dt} {j : Nat} {w : Int32}, (wI d' (z + 243) j w).1 (z + 242) = d'.1 (z + 242) := fun {d' j w} => wI_n (by omega)
  unfold f_X12_round_105
  refine rn_eq (q_sI hS 5 rfl (by decide) (by decide)) ?_
  refine r_gP hK 242 12 0 243 rfl (by decide) ?_
  refine r_gI hK (i := 242) (c := 12) rfl ?_
  refine rn_eq (q_sI hS 6 rfl (by decide) (by decide)) ?_
  refine r_gP hK 242 12 0 243 rfl (by decide) ?_
  refine r_gI hK (i := 242) (c := 12) rfl ?_
  refine rn_eq (q_sI hS 7 rfl (by decide) (by decide)) ?_
  refine r_gP hK 242 12 0 243 rfl (by decide) ?_
  refine r_gI hK (i := 242) (c := 12) rfl ?_
  refine rn_eq (q_sI hS 8 rfl (by decide) (by decide)) ?_
  repeat rw [ef]
  have s1 := nx (w := d.1 (z + 242) 21) (show 5 ≤ 8 by decide) (by decide) (nx (w := d.1 (z + 242) 20) (show 5 ≤ 7 by decide) (by decide) (nx (w := d.1 (z + 242) 19) (show 5 ≤ 6 by decide) (by decide) (nx (w := v) (show 5 ≤ 5 by decide) (by decide) s0)))
  have w4 : W43 z d (wI (wI (wI (wI d (z + 243) 5 v) (z + 243) 6 (d.1 (z + 242) 19)) (z + 243) 7 (d.1 (z + 242) 20)) (z + 243) 8 (d.1 (z + 242) 21)) := W43.rf.w.w.w.w
  refine rd_non (d0 := d) (n9 := l.length) hK hN hn (fun d1 f1 p1 => ?_) 60 0 N _ rfl (by omega) w4 ⟨s1.1, fun k hk => ?_, s1.2.2.1⟩
  · unfold f_X12_round_164
    refine rd_prt (d0 := d) (n9 := l.length) hK hN hn hg h21 hP (fun d2 f2 p2 => ?_) g 0 N d1 (by omega) (by omega) f1 p1
    unfold f_X12_round_222
    refine rd_drv (d0 := d) (n9 := l.length) hK hN hn rfl hD (fun d3 f3 p3 q3 => ?_) l.length 0 N d2 (by omega) (by omega) f2 p2 (fun i hi => absurd hi (Nat.not_lt_zero i))
    unfold f_X12_round_296
    refine rd_all (d0 := d) (n9 := l.length) hK hN hn rfl (fun d4 f4 i4 r4 => ?_) (by omega) (nn R 3) 0 N d3 (by omega) (by omega) f3 p3.1 (fun k hk => p3.2.1 k (by omega)) p3.2.2 q3 (fun p' hp' x hx => ?_)
    · unfold f_X12_round_319
      refine r_gI hK (i := 242) (c := 12) rfl ?_
      rw [f4.2 (z + 242) (by omega), hD.1]
      refine rn_eq (m_says hK) (rn_some ⟨rfl, f4.mfr.tr (MFR.wI (by decide) (by decide)), ?_, ?_⟩)
      · have e : (wI d4 (z + 242) 3 0).1 (z + 243) = d4.1 (z + 243) := wI_n (by omega)
        show RI (wI d4 (z + 242) 3 0) z ((wI d4 (z + 242) 3 0).1 (z + 243)) R true
        rw [e]
        exact ri_rg i4 (RG.w242 (k := 3) (v := 0) (Or.inl rfl))
      · show RND R l ((wI d4 (z + 242) 3 0).1 (z + 243))
        rw [wI_n (by omega)]
        exact r4
    · rw [if_neg (fun q => absurd q.1 (Nat.not_lt_zero p'))]
      exact p3.2.1 _ (by omega)
  · rcases hk with hk | ⟨hk, hk2⟩
    · exact s1.2.1 k hk
    · exact s1.2.2.2 k hk hk2
theorem zero_loop (hK : KS sh z) (hk : ∀ d', RBF z d0 d' → d'.1 (z + 242) = d0.1 (z + 242) → (∀ s, s < 150 → d'.1 (z + 260) s = 0) → Rn (f_X12_round_46 N sh (z + 242) d') Q) : ∀ (m i fu : Nat) (d : Dt), i + m = 150 → m < fu → RBF z d0 d → d.1 (z + 242) = d0.1 (z + 242) → (∀ s, s < i → d.1 (z + 260) s = 0) → Rn (f_X12_round_26 N sh fu (z + 242) (nI i) d) Q
  | 0, i, fu, d, hc, hf, hF, he, hs => by
    obtain ⟨fu, rfl⟩ : ∃ q, fu = q + 1 := ⟨fu - 1, by omega⟩
    show Rn (g_X12_round_26 N sh (f_X12_round_26 N sh fu) (z + 242) (nI i) d) _
    unfold g_X12_round_26
    refine rn_t (nI_le (a := 150) (by omega) (by omega)) ?_
    exact hk d hF he (fun s h => hs s (by omega))
  | m + 1, i, fu, d, hc, hf, hF, he, hs => by
    obtain ⟨fu, rfl⟩ : ∃ q, fu = q + 1 := ⟨fu - 1, by omega⟩
    show Rn (g_X12_round_26 N sh (f_X12_round_26 N sh fu) (z + 242) (nI i) d) _
    unfold g_X12_round_26
    refine rn_f (nI_ge (b := 150) (by omega) (by decide)) ?_
    refine r_gP hK 242 12 28 260 rfl (by decide) ?_
    refine rn_eq (q_sI (ks_a hK 260 0 150 rfl) i rfl (by omega) (by decide)) ?_
    rw [nI_1]
    refine zero_loop hK hk m (i + 1) fu _ (by omega) (by omega) (hF.tr DVF.w.rb) ((wI_n (by omega)).trans he) (fun s h => ?_)
    rw [wI_s]
    by_cases e : s = i
    · rw [e, va_up_s]
    · rw [va_up_n e]
      exact hs s (by omega)
theorem drA_len : ∀ (k : Nat) (T : Nat → Nat) (c : Nat) (D : Nat → Nat), (drA R k T c D).length ≤ k
  | 0, _, _, _ => Nat.le_refl 0
  | k + 1, T, c, D => by
    by_cases h : ∃ s, lvS R T c s
    · rw [show drA R (k + 1) T c D = _ from ite_p h]
      exact Nat.succ_le_succ (drA_len k _ _ _)
    · rw [show drA R (k + 1) T c D = _ from ite_n h]
      exact Nat.zero_le _
theorem nrE_len (h : (nrE R c l).1 = 0) : (nrE R c l).2.length ≤ 2000 := by
  unfold nrE at h ⊢
  by_cases h1 : ∃ n, dst R c 0 n
  · rw [ite_p h1] at h ⊢
    by_cases h2 : (l ++ emL R 0 60 c).length ≤ 2000
    · rw [if_pos h2]
      exact h2
    · rw [if_neg h2] at h
      exact absurd (show (-3 : Int32) = 0 from h) (by decide)
  · rw [ite_n h1] at h
    exact absurd (show (-8 : Int32) = 0 from h) (by decide)
theorem nrF_len : ∀ (m : Nat) (D : Nat → Nat) (c : Nat) (l : List (Nat × Nat × Nat)), (nrF R m D c l).1 = 0 → (nrF R m D c l).2.length ≤ 2000
  | 0, _, _, _, h => nrE_len h
  | m + 1, D, c, l, h => by
    by_cases h1 : ∃ t k, nrB R D c t k
    · rw [show nrF R (m + 1) D c l = _ from ite_p h1] at h ⊢
      by_cases h2 : (nrL R D c l).length ≤ 2000
      · rw [if_pos h2] at h ⊢
        exact nrF_len m _ _ _ h
      · rw [if_neg h2] at h
        exact absurd (show (-3 : Int32) = 0 from h) (by decide)
    · rw [show nrF R (m + 1) D c l = _ from ite_n h1] at h
      exact absurd (show (-8 : Int32) = 0 from h) (by decide)
theorem rdR_len (h : (rdR R).1 = 0) : (rdR R).2.length ≤ 2000 := by
  unfold rdR at h ⊢
  by_cases hB : BW R
  · rw [ite_p hB] at h ⊢
    unfold pbR at h ⊢
    cases hj : joinF R 60 (T0 R) with
    | none =>
      rw [hj] at h
      exact absurd (show (-8 : Int32) = 0 from h) (by decide)
    | some T' =>
      rw [hj] at h
      by_cases h2 : smN (tsP R T') (nn R 1) ≤ 2000
      · show (if smN (tsP R T') (nn R 1) ≤ 2000 then ((0 : Int32), drA R 2000 (tsP R T') 0 (T0 R)) else (-3, [])).2.length ≤ 2000
        rw [if_pos h2]
        exact drA_len _ _ _ _
      · have h : (if smN (tsP R T') (nn R 1) ≤ 2000 then ((0 : Int32), drA R 2000 (tsP R T') 0 (T0 R)) else (-3, [])).1 = 0 := h
        rw [if_neg h2] at h
        exact absurd (show (-3 : Int32) = 0 from h) (by decide)
  · rw [ite_n hB] at h ⊢
    exact nrF_len _ _ _ _ h
theorem m_round (hNf : 2 ^ 40 ≤ N) (hK : KS sh z) (h : RI d z R K u) (hR : WF R) : Rn (f_X12_round N sh (z + 242) d) (RDO z R K u (rdR R) d) := by
  have hN := hR.1
  have hW := hR.2.2.1
  unfold f_X12_round
  refine rn_t (ks_o hK 242 12 rfl) ?_
  refine rn_bind (m_reckon hNf hK h hR) (fun d1 h1 => ?_)
  obtain ⟨k1, i1, k3⟩ := h1
  refine r_pI hK (i := 242) (c := 12) rfl ?_
  refine r_pI hK (i := 242) (c := 12) rfl ?_
  refine r_pI hK (i := 242) (c := 12) rfl ?_
  refine r_pI hK (i := 242) (c := 12) rfl ?_
  have fp : ∀ {d' : Dt} {k : Nat}, (k = 19 ∨ k = 20 ∨ k = 21 ∨ k = 24) → RBF z d' (wI d' (z + 242) k 0) := fun {d' k} hk => ⟨rfl, fun a q _ => wI_n q, fun k' _ q1 q2 q3 q4 => by rw [wI_s, va_up_n (by omega)]⟩
  have f4 : RBF z d1 (wI (wI (wI (wI d1 (z + 242) 19 0) (z + 242) 20 0) (z + 242) 21 0) (z + 242) 24 0) := (((fp (Or.inl rfl)).tr (fp (Or.inr (Or.inl rfl)))).tr (fp (Or.inr (Or.inr (Or.inl rfl))))).tr (fp (Or.inr (Or.inr (Or.inr rfl))))
  have c20 : (wI (wI (wI (wI d1 (z + 242) 19 0) (z + 242) 20 0) (z + 242) 21 0) (z + 242) 24 0).1 (z + 242) 20 = 0 := by
    rw [wI_s, va_up_n (by decide), wI_s, va_up_n (by decide), wI_s, va_up_s]
  have c21 : (wI (wI (wI (wI d1 (z + 242) 19 0) (z + 242) 20 0) (z + 242) 21 0) (z + 242) 24 0).1 (z + 242) 21 = 0 := by
    rw [wI_s, va_up_n (by decide), wI_s, va_up_s]
  have c24 : (wI (wI (wI (wI d1 (z + 242) 19 0) (z + 242) 20 0) (z + 242) 21 0) (z + 242) 24 0).1 (z + 242) 24 = 0 := by
    rw [wI_s, va_up_s]
  have hR1 : RCx d1 z R := ⟨i1.1, k3⟩
  have fin : ∀ (w : Int32) (o : Int32 × List (Nat × Nat × Nat)) (r : Int32 × Dt), o = rdR R → RBF z d1 r.2 → r.1 = o.1 → (r.1 = 0 → DRl z r.2 o.2 ∧ ∃ g, g ≤ 30 ∧ r.2.1 (z + 242) 21 = nI g ∧ ∀ k, k < g → ∃ a b, a < 60 ∧ b < 60 ∧ r.2.1 (z + 255) k = nI a ∧ r.2.1 (z + 256) k = nI b) → Rn (f_X12_round_66 N sh (z + 242) w r.1 r.2) (RDO z R K u (rdR R) d) := fun w o r ho hf h1 hd => by
    subst ho
    have ir := ri_rb i1 hf
    have hm := k1.mfr.tr hf.mfr
    unfold f_X12_round_66
    by_cases h0 : r.1 = 0
    · refine rn_t h0 ?_
      obtain ⟨dd1, g, g1, g2, g3⟩ := hd h0
      have hl := rdR_len (h1.symm.trans h0)
      refine rn_eq (m_keeps hK (by omega) rfl) ?_
      obtain ⟨kd, ke, ki, km⟩ := ri_keeps (N := N) ir hK (by omega)
      have kd2 : kd = (wI (va_up r.2.1 (z + 244) (fun k => if k < 15642 then r.2.1 (z + 243) k else r.2.1 (z + 244) k), r.2.2) (z + 242) 2 1) := Option.some.inj (ke.symm.trans (m_keeps hK (by omega) rfl))
      rw [← kd2]
      have kc : ∀ a, a ≠ z + 242 → a ≠ z + 244 → kd.1 a = r.2.1 a := fun a q1 q2 => by
        rw [kd2, wI_n q1]
        exact va_up_n q2
      have kf : ∀ k, k ≠ 2 → kd.1 (z + 242) k = r.2.1 (z + 242) k := fun k hk => by
        rw [kd2, wI_s, va_up_n hk]
        show va_up r.2.1 (z + 244) _ (z + 242) k = _
        rw [va_up_n (by omega)]
      have hA9 : ∀ k, k < 15642 → kd.1 (z + 243) k = R k := ki.1
      have hS := ks_a hK 243 0 15642 rfl
      refine r_gP hK 242 12 0 243 rfl (by decide) ?_
      refine r_gI hK (i := 242) (c := 12) rfl ?_
      rw [kf 24 (by decide), dd1.1]
      refine rn_eq (q_sI hS 4 rfl (by decide) (by decide)) ?_
      refine r_gP hK 242 12 0 243 rfl (by decide) ?_
      have n4 := hN.2.2.2.2
      have wnk : WN (kd.1 (z + 243)) := by
        have e : ∀ k, k < 5 → nn (kd.1 (z + 243)) k = nn R k := fun k hk => by unfold nn; rw [hA9 k (by omega)]
        unfold WN
        rw [e 0 (by omega), e 1 (by omega), e 2 (by omega), e 3 (by omega), e 4 (by omega), hA9 0 (by omega), hA9 1 (by omega), hA9 2 (by omega), hA9 3 (by omega), hA9 4 (by omega)]
        exact hN
      have ik : RI kd z (kd.1 (z + 243)) R true := ri_ag ki hN.2.1.2 (fun k hk => (hA9 k hk).symm)
      have i5 : RI (wI kd (z + 243) 4 (nI (rdR R).2.length)) z ((wI kd (z + 243) 4 (nI (rdR R).2.length)).1 (z + 243)) R true := ri_cell5 ik wnk (by decide) (by decide)
      have dl : DRl z (wI kd (z + 243) 4 (nI (rdR R).2.length)) (rdR R).2 := ⟨by rw [wI_n (by omega), kf 24 (by decide)]; exact dd1.1, fun i hi hi2 => by
        rw [wI_n (by omega), wI_n (by omega), wI_n (by omega), kc _ (by omega) (by omega), kc _ (by omega) (by omega), kc _ (by omega) (by omega)]
        exact dd1.2 i hi hi2⟩
      have go : ∀ v, Rn (f_X12_round_105 N sh (z + 242) (z + 243) 5 v (wI kd (z + 243) 4 (nI (rdR R).2.length))) (RDO z R K u (rdR R) d) := fun v => by
        refine rn_mono (m_round105 (l := (rdR R).2) (g := g) (by omega) hK hN hl dl g1 (by rw [wI_n (by omega), kf 21 (by decide)]; exact g2) (fun k hk => ?_) i5 (fun k hk => ?_) (by rw [wI_s, va_up_s])) (fun r9 h9 => ?_)
        · rw [wI_n (by omega), wI_n (by omega), kc _ (by omega) (by omega), kc _ (by omega) (by omega)]
          exact g3 k hk
        · rw [wI_s, va_up_n (by omega)]
          exact hA9 k (by omega)
        · obtain ⟨y1, y2, y3, y4⟩ := h9
          have m9 : MFR z kd (wI kd (z + 243) 4 (nI (rdR R).2.length)) := W43.rf.w.mfr
          refine Or.inr ⟨h1.symm.trans h0, _, y4, y1, ((hm.tr km).tr m9).tr y2, y3⟩
      exact rn_ite (fun _ => go 1) (fun _ => go 2)
    · refine rn_f h0 ?_
      refine rn_mono (ro_refuses (o := ((rdR R).1, none)) hK ir (by rw [h1])) (fun r9 h9 => Or.inl ⟨fun e => h0 (h1.trans e), h9.1, hm.tr h9.2.1, h9.2.2⟩)
  refine zero_loop (d0 := wI (wI (wI (wI d1 (z + 242) 19 0) (z + 242) 20 0) (z + 242) 21 0) (z + 242) 24 0) hK (fun d5 f5 e5 z5 => ?_) 150 0 N _ rfl (by omega) RBF.rf rfl (fun s h => absurd h (Nat.not_lt_zero s))
  have f14 := f4.tr f5
  have hR5 := f14.rc hR1
  have n1 := hN.2.1.2
  have hL5 : DRl z d5 [] := ⟨by rw [e5]; exact c24, fun i hi => absurd hi (Nat.not_lt_zero i)⟩
  unfold f_X12_round_46
  refine rn_bind (m_isOneWay (by omega) hK hN hW hR5.1) (fun v hv => ?_)
  rcases hv with ⟨hv, hB⟩ | ⟨hv, hB⟩
  · refine rn_t hv ?_
    have e : rdR R = pbR R := ite_p hB
    refine rn_bind (m_roundByPairs hNf hK hN hW hB hR5 (by rw [e5]; exact c20) (by rw [e5]; exact c21) hL5 (fun s hs => z5 s (by omega))) (fun r hr => ?_)
    exact fin v (pbR R) r e.symm (f14.tr hr.1) hr.2.1 hr.2.2
  · refine rn_f (by rw [hv]; decide) ?_
    have e : rdR R = nbR R := ite_n hB
    have h0 : 0 < nn R 0 := by
      rcases Nat.eq_zero_or_pos (nn R 0) with q | q
      · refine absurd (fun s hs _ => ?_) hB
        obtain ⟨-, a2, -⟩ := ws_e hW hN hs
        omega
      · exact q
    refine rn_bind (m_roundByNearest (by omega) hK hN hW hR5 h0 hL5 (fun s hs => z5 s (by omega))) (fun r hr => ?_)
    refine fin v (nbR R) r e.symm (f14.tr hr.1.rb) hr.2.1 (fun q => ⟨hr.2.2 q, 0, by decide, ?_, fun k hk => absurd hk (Nat.not_lt_zero k)⟩)
    rw [hr.1.2.2 21 (by decide), e5]
    exact c21
end RO9
