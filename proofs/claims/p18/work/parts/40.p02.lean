/-! 47.bk.lean.txt -/
/-! who owns a cell: rows belong to the object that holds them, static cells to themselves -/
def onr (z : Nat) (ow : Nat → Nat) (a : Nat) : Nat := if 1 ≤ ow a then (ow a - 1) / 16 else if z ≤ a ∧ a < z + 264 then a - z else 1000
def IX (z : Nat) (ow : Nat → Nat) (lo hi : Nat) : Nat → Prop := fun a => lo ≤ onr z ow a ∧ onr z ow a ≤ hi
section ON
variable {z : Nat} {ow : Nat → Nat} {a i o lo hi : Nat}
theorem onr_s (h : ow (z + i) = 0) (hi : i < 264) : onr z ow (z + i) = i := by
  unfold onr
  rw [h, if_neg (by decide), if_pos ⟨by omega, by omega⟩]
  omega
theorem onr_r {k : Nat} (h : ow a = 16 * o + k + 1) (hk : k < 16) : onr z ow a = o := by
  unfold onr
  rw [h, if_pos (by omega)]
  omega
theorem tx_ix {nc : Nat} (hk : tck o nc = true) (hw : OWS ow z) (h : TX z ow o a) : IX z ow o (o + 1) a := by
  have h1 := tck_o hk hw
  have h2 := tck_n hk
  rcases h with rfl | rfl | h
  · unfold IX
    rw [onr_s h1.1 (by omega)]
    omega
  · unfold IX
    rw [onr_s h1.2 (by omega)]
    omega
  · unfold IX onr
    rw [if_pos h.1]
    omega
theorem ix_mono {lo2 hi2 : Nat} (h : IX z ow lo hi a) (h1 : lo2 ≤ lo) (h2 : hi ≤ hi2) : IX z ow lo2 hi2 a := ⟨Nat.le_trans h1 h.1, Nat.le_trans h.2 h2⟩
theorem ix_old {s s' : AS} {X : Nat → Prop} {ow' : Nat → Nat} (he : ES X s ow s' ow') (ha : a < s.1.1.2.1) (h : IX z ow' lo hi a) : IX z ow lo hi a := by
  have q := (he.2.2 a ha).2.2.2.1
  unfold IX onr at h ⊢
  rw [q] at h
  exact h
/-- a table is left by what touches others -/
theorem tb_ix {s s' : AS} {ow' : Nat → Nat} {nc S : Nat} {V : Nat → Nat → Int32} {L : Nat → Nat} (h : TB s.1 s.2 z ow o nc S V L) (hK : KS s.1 z) (hw : OWS ow z) (hk : tck o nc = true) (he : ES (IX z ow lo hi) s ow s' ow') (hx : hi < o ∨ o + 1 < lo) : TB s'.1 s'.2 z ow' o nc S V L := by
  have h1 := tck_o hk hw
  have h2 := tck_n hk
  refine tb_es h hK hk he (fun q => ?_) (fun q => ?_) (fun a ha hb q => ?_)
  · unfold IX at q
    rw [onr_s h1.1 (by omega)] at q
    omega
  · unfold IX at q
    rw [onr_s h1.2 (by omega)] at q
    omega
  · unfold IX onr at q
    rw [if_pos ha] at q
    omega
theorem ce_ix {s s' : AS} {ow' : Nat → Nat} {b Lc : Nat} {P : Nat → Prop} {W : Nat → Int64} (h : CE s.1 s.2 z ow b Lc P W) (hK : KS s.1 z) (hb : ow (z + b) = 0) (hb2 : b < 264) (he : ES (IX z ow lo hi) s ow s' ow') (hx : hi < b ∨ b < lo) : CE s'.1 s'.2 z ow' b Lc P W := by
  obtain ⟨a, h1, h2, h3, h4, h5, h6⟩ := h
  have hz := hK.2.1
  have hlt : a < s.1.1.2.1 := h3.2.1
  have q := he.2.2 a hlt
  have e1 := he.1
  have e2 := he.2.1
  have hX : ¬ IX z ow lo hi a := fun q => by
    unfold IX at q
    rw [onr_r (o := b) (k := 0) h2 (by omega)] at q
    omega
  have hX2 : ¬ IX z ow lo hi (z + b) := fun q => by
    unfold IX at q
    rw [onr_s hb hb2] at q
    omega
  refine ⟨a, ?_, by rw [q.2.2.2.1]; exact h2, ⟨by rw [e1]; exact h3.1, by omega, by rw [q.1]; exact h3.2.2⟩, by rw [q.2.1]; exact h4, h5, fun k hk => ⟨(h6 k hk).1, ?_⟩⟩
  · rw [((he.2.2 (z + b) (by omega)).2.2.2.2 hX2).2.2.2]
    exact h1
  · rw [(q.2.2.2.2 hX).2.1]
    exact (h6 k hk).2
end ON
/-! the state as the reference holds it, an array R; the books' columns out of it -/
def nn (R : Nat → Int32) (k : Nat) : Nat := (R k).toNatClampNeg
def vS (R : Nat → Int32) (c i : Nat) : Int32 := R (16 + 9 * i + c)
def vG (R : Nat → Int32) (c i : Nat) : Int32 := R (1366 + 3 * i + c)
def vP (R : Nat → Int32) (c i : Nat) : Int32 := if c = 0 then R (9426 + 13 * i + 6) else if c = 1 then R (9426 + 13 * i + 7) else if c = 2 then R (9426 + 13 * i + 8) else if c = 3 then R (9426 + 13 * i + 9) else if c = 4 then R (9426 + 13 * i + 10) else if c = 5 then R (9426 + 13 * i + 1) else if c = 6 then (if R (9426 + 13 * i + 2) = 1 then -1 else R (9426 + 13 * i)) else if c = 7 then R (9426 + 13 * i + 11) else R (9426 + 13 * i + 12)
def vD (R : Nat → Int32) (c i : Nat) : Int32 := if c = 0 then R (9642 + 3 * i) else if c = 1 then R (9642 + 3 * i + 1) else if c = 2 then (if R (9642 + 3 * i + 1) = R (16 + 9 * nn R (9642 + 3 * i) + 7) then R (16 + 9 * nn R (9642 + 3 * i) + 8) else R (16 + 9 * nn R (9642 + 3 * i) + 7)) else R (9642 + 3 * i + 2)
def vC (R : Nat → Int32) (k : Nat) : Int64 := if R (5426 + k) = 1 then 1099511627776 else if R (5426 + k) = 2 then 2199023255552 else (R (1426 + k)).toInt64
def inC (R : Nat → Int32) (k : Nat) : Prop := ∃ g h, g < nn R 2 ∧ h < nn R (1366 + 3 * g + 2) ∧ k = 200 * g + h
/-- how many there are, within the document's limits -/
def WN (R : Nat → Int32) : Prop := (R 0 = nI (nn R 0) ∧ nn R 0 ≤ 60) ∧ (R 1 = nI (nn R 1) ∧ nn R 1 ≤ 150) ∧ (R 2 = nI (nn R 2) ∧ nn R 2 ≤ 20) ∧ (R 3 = nI (nn R 3) ∧ nn R 3 ≤ 12) ∧ (R 4 = nI (nn R 4) ∧ nn R 4 ≤ 2000)
def WG (R : Nat → Int32) : Prop := ∀ g, g < nn R 2 → (R (1366 + 3 * g + 2) = -1 ∨ R (1366 + 3 * g + 2) = nI (nn R (1366 + 3 * g + 2))) ∧ nn R (1366 + 3 * g + 2) ≤ 200
abbrev BL : Type := (Nat → Nat) × (Nat → Nat) × (Nat → Nat) × (Nat → Nat) × Nat
def QB (q : BL) : Prop := (∀ c, c < 9 → q.1 c ≤ 300) ∧ (∀ c, c < 3 → q.2.1 c ≤ 40) ∧ (∀ c, c < 9 → q.2.2.1 c ≤ 24) ∧ (∀ c, c < 4 → q.2.2.2.1 c ≤ 4000) ∧ q.2.2.2.2 ≤ 8000
def pot (q : BL) : Nat := smN q.1 9 + smN q.2.1 3 + smN q.2.2.1 9 + smN q.2.2.2.1 4 + q.2.2.2.2
/-- the books at z + b hold R; the room of their rows is q -/
def BK (sh : Sh) (d : Dt) (z : Nat) (ow : Nat → Nat) (b : Nat) (R : Nat → Int32) (q : BL) : Prop :=
  d.1 (z + b) 0 = R 0 ∧ TB sh d z ow (b + 1) 9 (nn R 1) (vS R) q.1 ∧ TB sh d z ow (b + 12) 3 (nn R 2) (vG R) q.2.1 ∧ TB sh d z ow (b + 17) 9 (nn R 3) (vP R) q.2.2.1 ∧ TB sh d z ow (b + 28) 4 (nn R 4) (vD R) q.2.2.2.1 ∧ CE sh d z ow b q.2.2.2.2 (inC R) (vC R) ∧ nn R 2 * 200 ≤ q.2.2.2.2 ∧ QB q
def bck (b : Nat) : Prop := b = 3 ∨ b = 40
section BKS
variable {z : Nat} {ow : Nat → Nat} {b : Nat} {R : Nat → Int32} {q : BL} {N : Nat}
theorem bck_t (h : bck b) : tck (b + 1) 9 = true ∧ tck (b + 12) 3 = true ∧ tck (b + 17) 9 = true ∧ tck (b + 28) 4 = true := by
  rcases h with rfl | rfl <;> decide
theorem bck_o (h : bck b) : (Nat.blt b 264 && Nat.beq (cTl.getD b 99) (10 + 1)) = true := by
  rcases h with rfl | rfl <;> decide
theorem bck_p (h : bck b) : (b, 1, b + 1) ∈ cPt ∧ (b, 2, b + 12) ∈ cPt ∧ (b, 3, b + 17) ∈ cPt ∧ (b, 4, b + 28) ∈ cPt ∧ (b, 5, b + 34) ∈ cPt ∧ (b, 6, b + 35) ∈ cPt := by
  rcases h with rfl | rfl <;> decide
theorem bck_w (h : bck b) (hw : OWS ow z) : ow (z + b) = 0 ∧ b < 264 := by
  rcases h with rfl | rfl
  · exact ⟨hw 3 (by decide) (by decide), by decide⟩
  · exact ⟨hw 40 (by decide) (by decide), by decide⟩
/-- the books are left by what touches others -/
theorem bk_ix {s s' : AS} {ow' : Nat → Nat} {lo hi : Nat} (h : BK s.1 s.2 z ow b R q) (hb : bck b) (hK : KS s.1 z) (hw : OWS ow z) (he : ES (IX z ow lo hi) s ow s' ow') (hx : hi < b ∨ b + 36 < lo) : BK s'.1 s'.2 z ow' b R q := by
  obtain ⟨h0, h1, h2, h3, h4, h5, h6, h7⟩ := h
  have hw2 := bck_w hb hw
  have ht := bck_t hb
  have hz := hK.2.1
  have hX : ¬ IX z ow lo hi (z + b) := fun q => by
    unfold IX at q
    rw [onr_s hw2.1 hw2.2] at q
    omega
  refine ⟨?_, tb_ix h1 hK hw ht.1 he (by omega), tb_ix h2 hK hw ht.2.1 he (by omega), tb_ix h3 hK hw ht.2.2.1 he (by omega), tb_ix h4 hK hw ht.2.2.2 he (by omega), ce_ix h5 hK hw2.1 hw2.2 he (by omega), h6, h7⟩
  rw [((he.2.2 (z + b) (by omega)).2.2.2.2 hX).1]
  exact h0
theorem widenCells {s : AS} {Lc : Nat} {P : Nat → Prop} {W : Nat → Int64} {G : Nat} (hb : bck b) (hG : G ≤ 20) (hK : KS s.1 z) (hw : OWS ow z) (hs : s.2.1 (z + (b + 12)) 1 = nI G) (hc : CE s.1 s.2 z ow b Lc P W) (hLc : Lc ≤ 8000) : Rn (f_X1_widenCells N (z + b) s) (fun s' => ∃ ow' Lc', ES (IX z ow b b) s ow s' ow' ∧ CE s'.1 s'.2 z ow' b Lc' P W ∧ G * 200 ≤ Lc' ∧ Lc' ≤ 8000 ∧ s'.1.1.2.2 + 2 * Lc ≤ s.1.1.2.2 + 2 * Lc' ∧ 4 * s'.1.1.2.1 + Lc ≤ 4 * s.1.1.2.1 + Lc' ∧ s'.2.1 (z + b) = s.2.1 (z + b)) := by
  have hw2 := bck_w hb hw
  have hp := bck_p hb
  have ht := bck_t hb
  have hz := hK.2.1
  have hz1 := hK.1
  obtain ⟨a, h1, h2, h3, h4, h5, h6⟩ := id hc
  have hlt : a < s.1.1.2.1 := h3.2.1
  unfold f_X1_widenCells
  refine rn_t (ks_o hK b 1 (bck_o hb)) ?_
  refine r_gP hK b 1 2 (b + 12) (bck_o hb) hp.2.1 ?_
  refine r_gI hK (tck_1 ht.2.1) ?_
  rw [hs]
  refine r_gQ hK a h1 (bck_o hb) ?_
  refine rn_eq (q_len ⟨h3, h4⟩ (by decide)) ?_
  have e1 : nI G * (200 : Int32) = nI (G * 200) := pk_mul G 200
  rw [e1]
  by_cases hle : G * 200 ≤ Lc
  · refine rn_t (nI_le hle (by omega)) ?_
    exact rn_some ⟨ow, Lc, ES.rf, hc, hle, hLc, Nat.le_refl _, Nat.le_refl _, rfl⟩
  · refine rn_f (nI_ge (by omega) (by omega)) ?_
    refine r_gQ hK a h1 (bck_o hb) ?_
    refine r_gQ hK a h1 (bck_o hb) ?_
    refine rn_eq (q_len ⟨h3, h4⟩ (by decide)) ?_
    have e2 : o_max (nI (G * 200)) ((2 : Int32) * nI Lc) = nI (max (G * 200) (2 * Lc)) := by
      rw [show (2 : Int32) = nI 2 from rfl, pk_mul, o_max_nI (by omega) (by omega)]
    rw [e2]
    have hm1 : max (G * 200) (2 * Lc) ≤ 8000 := by omega
    have hm2 : Lc < max (G * 200) (2 * Lc) ∧ 2 * Lc ≤ max (G * 200) (2 * Lc) ∧ G * 200 ≤ max (G * 200) (2 * Lc) := by omega
    refine rn_eq (copyOfJ_eq (s := s) ⟨h3, h4⟩ (by omega) (by omega) (by omega)) ?_
    generalize max (G * 200) (2 * Lc) = mm at hm1 hm2 ⊢
    have hes := push_es (s := s) (t := 1) (n := mm) (m := mm) (X := IX z ow b b) (ow := ow) (q := 16 * b + 1)
    have hK1 : KS (push s 1 mm mm).1 z := KS.es hK hes
    have hN1 := push_N (s := s) (t := 1) (n := mm) (m := mm) (by omega)
    unfold f_X1_widenCells_40
    refine r_pQ hK1 (bck_o hb) ?_
    refine rn_some ⟨va_up ow s.1.1.2.1 (16 * b + 1), mm, ⟨hes.1, hes.2.1, fun c hc9 => ?_⟩, ⟨s.1.1.2.1, ?_, va_up_s, hN1.1, hN1.2, by omega, fun k hk => ?_⟩, hm2.2.2, hm1, ?_, ?_, va_up_n (by omega)⟩
    · have r := hes.2.2 c hc9
      refine ⟨r.1, r.2.1, r.2.2.1, r.2.2.2.1, fun hX => ?_⟩
      have r2 := r.2.2.2.2 hX
      refine ⟨r2.1, ?_, r2.2.2.1, ?_⟩
      · show va_up (push s 1 mm mm).2.2.1 s.1.1.2.1 _ c = _
        rw [va_up_n (by omega)]
        exact r2.2.1
      · show up2 (push s 1 mm mm).2.2.2.2 (z + b) 7 _ c = _
        rw [up2_n (fun e => hX (by rw [e]; unfold IX; rw [onr_s hw2.1 hw2.2]; omega))]
        exact r2.2.2.2
    · show up2 _ (z + b) 7 (some s.1.1.2.1) (z + b) 7 = _
      rw [up2_s]
      exact va_up_s
    · have r := h6 k hk
      refine ⟨by omega, ?_⟩
      show va_up (push s 1 mm mm).2.2.1 s.1.1.2.1 (fun k => if k < min Lc mm then s.2.2.1 a k else 0) s.1.1.2.1 k = _
      rw [va_up_s, if_pos (by omega)]
      exact r.2
    · show s.1.1.2.2 + mm + 2 * Lc ≤ _
      omega
    · show 4 * (s.1.1.2.1 + 1) + Lc ≤ _
      omega
end BKS
/-! 48.bec.lean.txt -/
def inCg (R : Nat → Int32) (G k : Nat) : Prop := ∃ g h, g < G ∧ h < nn R (1366 + 3 * g + 2) ∧ k = 200 * g + h
section BC
variable {sh : Sh} {d : Dt} {z : Nat} {ow : Nat → Nat} {b1 b2 : Nat} {R : Nat → Int32} {N : Nat}
theorem cpy_J {src dst ls ld sp dp n : Nat} (h1 : isA sh src 1 ∧ sh.2.2.1 src = ls) (h2 : isA sh dst 1 ∧ sh.2.2.1 dst = ld) (b1 : sp + n ≤ ls) (b2 : dp + n ≤ ld) (b3 : ls < 2 ^ 31) (b4 : ld < 2 ^ 31) : cpy sh d src (nI sp) dst (nI dp) (nI n) = some (d.1, va_up d.2.1 dst (va_cpy (d.2.1 src) (d.2.1 dst) sp dp n), d.2.2) := by
  unfold cpy
  rw [if_pos h1.1.2.2]
  unfold cpJ
  rw [h1.2, h2.2, nI_clamp (by omega), nI_clamp (by omega), nI_clamp (by omega), if_pos ⟨h1.1, h2.1, nI_pos (by omega), nI_pos (by omega), nI_pos (by omega), b1, b2⟩]
theorem hours_max {k : Nat} (h : R k = -1 ∨ R k = nI (nn R k)) (h2 : nn R k ≤ 200) : o_max (0 : Int32) (R k) = nI (nn R k) := by
  rcases h with h | h
  · unfold nn
    rw [h]
    decide
  · rw [h]
    exact (o_max_nI (a := 0) (b := nn R k) (by omega) (by omega)).trans (by rw [Nat.zero_max])
theorem cells_loop {Lc Lc2 : Nat} {L : Nat → Nat} (hb : bck b1) (hb2 : bck b2) (hd : b1 + 37 ≤ b2 ∨ b2 + 37 ≤ b1) (hK : KS sh z) (hw : OWS ow z) (hN : WN R) (hG : WG R) (h1 : nn R 2 * 200 ≤ Lc) (h2 : nn R 2 * 200 ≤ Lc2) : ∀ (m g fu : Nat) (d : Dt), g + m = nn R 2 → m < fu → TB sh d z ow (b1 + 12) 3 (nn R 2) (vG R) L → CE sh d z ow b2 Lc2 (inC R) (vC R) → CE sh d z ow b1 Lc (inCg R g) (vC R) →
    Rn (f_X1_become_88 N fu (z + b1) (z + b2) (nI g) (sh, d)) (fun s' => s'.1 = sh ∧ s'.2.1 = d.1 ∧ s'.2.2.2 = d.2.2 ∧ FD (IX z ow b1 b1) d s'.2 ∧ CE sh s'.2 z ow b1 Lc (inC R) (vC R))
  | 0, g, fu, d, hg, hf, ht, hc2, hc1 => by
    obtain ⟨fu, rfl⟩ : ∃ q, fu = q + 1 := ⟨fu - 1, by omega⟩
    show Rn (g_X1_become_88 N (f_X1_become_88 N fu) (z + b1) (z + b2) (nI g) (sh, d)) _
    unfold g_X1_become_88
    have hp := bck_p hb
    have htt := bck_t hb
    have hn := hN.2.2.1.2
    refine r_gP hK b1 1 2 (b1 + 12) (bck_o hb) hp.2.1 ?_
    refine r_gI hK (tck_1 htt.2.1) ?_
    rw [show (sh, d).2 = d from rfl, ht.1]
    refine rn_t (nI_le (by omega) (by omega)) ?_
    have e : g = nn R 2 := by omega
    subst e
    exact rn_some ⟨rfl, rfl, rfl, FD.rf, hc1⟩
  | m + 1, g, fu, d, hg, hf, ht, hc2, hc1 => by
    obtain ⟨fu, rfl⟩ : ∃ q, fu = q + 1 := ⟨fu - 1, by omega⟩
    show Rn (g_X1_become_88 N (f_X1_become_88 N fu) (z + b1) (z + b2) (nI g) (sh, d)) _
    unfold g_X1_become_88
    have hp := bck_p hb
    have htt := bck_t hb
    have hn := hN.2.2.1.2
    have hgn : g < nn R 2 := by omega
    obtain ⟨hh, hh2⟩ := hG g hgn
    obtain ⟨a2, p1, p2, p3, p4, p5, p6⟩ := id hc2
    obtain ⟨a1, r1, r2, r3, r4, r5, r6⟩ := id hc1
    refine r_gP hK b1 1 2 (b1 + 12) (bck_o hb) hp.2.1 ?_
    refine r_gI hK (tck_1 htt.2.1) ?_
    rw [show (sh, d).2 = d from rfl, ht.1]
    refine rn_f (nI_ge hgn (by omega)) ?_
    refine r_gP hK b1 1 2 (b1 + 12) (bck_o hb) hp.2.1 ?_
    refine rn_eq (tb_get (c := 2) hK htt.2.1 ht rfl hgn rfl (by decide)) ?_
    refine r_gQ hK a2 p1 (bck_o hb2) ?_
    refine r_gQ hK a1 r1 (bck_o hb) ?_
    have e1 : o_max (0 : Int32) (vG R 2 g) = nI (nn R (1366 + 3 * g + 2)) := hours_max hh hh2
    have e2 : nI g * (200 : Int32) = nI (g * 200) := pk_mul g 200
    rw [e1, e2]
    refine rn_eq (cpy_J ⟨p3, p4⟩ ⟨r3, r4⟩ (by omega) (by omega) (by omega) (by omega)) ?_
    rw [nI_1]
    have hne : a2 ≠ a1 := fun e => by
      rw [e, r2] at p2
      omega
    have hX : ∀ b, ¬ IX z ow b1 b1 b → b ≠ a1 := fun b hb9 e => hb9 (by rw [e]; unfold IX; rw [onr_r (o := b1) (k := 0) r2 (by omega)]; omega)
    have hfd : ∀ F, FD (IX z ow b1 b1) d (d.1, va_up d.2.1 a1 F, d.2.2) := fun F b hb9 => ⟨rfl, va_up_n (hX b hb9), rfl, rfl⟩
    refine rn_mono (cells_loop hb hb2 hd hK hw hN hG h1 h2 m (g + 1) fu _ (by omega) (by omega) ht ⟨a2, p1, p2, p3, p4, p5, fun k hk => ⟨(p6 k hk).1, ?_⟩⟩ ⟨a1, r1, r2, r3, r4, r5, fun k hk => ?_⟩) (fun s' hs => ⟨hs.1, hs.2.1, hs.2.2.1, (hfd _).tr hs.2.2.2.1, hs.2.2.2.2⟩)
    · show va_up d.2.1 a1 _ a2 k = _
      rw [va_up_n hne]
      exact (p6 k hk).2
    · obtain ⟨g', h', q1, q2, q3⟩ := hk
      show k < Lc ∧ va_up d.2.1 a1 (va_cpy (d.2.1 a2) (d.2.1 a1) (g * 200) (g * 200) (nn R (1366 + 3 * g + 2))) a1 k = _
      rw [va_up_s]
      show k < Lc ∧ (if g * 200 ≤ k ∧ k < g * 200 + nn R (1366 + 3 * g + 2) then d.2.1 a2 (g * 200 + (k - g * 200)) else d.2.1 a1 k) = _
      by_cases e : g' = g
      · subst e
        have r := p6 k ⟨g', h', hgn, q2, q3⟩
        rw [if_pos (by omega)]
        have e3 : g' * 200 + (k - g' * 200) = k := by omega
        rw [e3]
        exact ⟨by omega, r.2⟩
      · have hh9 := (hG g' (by omega)).2
        rw [if_neg (by omega)]
        exact r6 k ⟨g', h', by omega, q2, q3⟩
theorem nix {i lo hi : Nat} (h : ow (z + i) = 0) (hi9 : i < 264) (hx : hi < i ∨ i < lo) : ¬ IX z ow lo hi (z + i) := fun q => by
  unfold IX at q
  rw [onr_s h hi9] at q
  omega
theorem fd_ix {i : Nat} {k : Nat} {v : Int32} (hi : i < 264) (h : ow (z + i) = 0) : FD (IX z ow i i) d (wI d (z + i) k v) := FD.wI (by unfold IX; rw [onr_s h hi]; omega)
theorem bk_become {s : AS} {R1 : Nat → Int32} {q1 q2 : BL} (hNf : 30 ≤ N) (hb : bck b1) (hb2 : bck b2) (hd : b1 + 37 ≤ b2 ∨ b2 + 37 ≤ b1) (hK : KS s.1 z) (hw : OWS ow z) (hN1 : WN R1) (hN : WN R) (hG : WG R) (h1 : BK s.1 s.2 z ow b1 R1 q1) (h2 : BK s.1 s.2 z ow b2 R q2) : Rn (f_X1_become N (z + b1) (z + b2) s) (fun s' => ∃ ow' q', ES (IX z ow b1 (b1 + 36)) s ow s' ow' ∧ BK s'.1 s'.2 z ow' b1 R q' ∧ s'.1.1.2.2 + 2 * pot q1 ≤ s.1.1.2.2 + 2 * pot q' ∧ 4 * s'.1.1.2.1 + pot q1 ≤ 4 * s.1.1.2.1 + pot q') := by
  have hp := bck_p hb
  have hp2 := bck_p hb2
  have ht := bck_t hb
  have ht2 := bck_t hb2
  have hwb := bck_w hb hw
  have n1 := hN.2.1.2
  have n2 := hN.2.2.1.2
  have n3 := hN.2.2.2.1.2
  have n4 := hN.2.2.2.2.2
  obtain ⟨L1, L2, L3, L4, Lc⟩ := q1
  obtain ⟨x0, x1, x2, x3, x4, x5, x6, x7⟩ := h1
  obtain ⟨y1, y2, y3, y4, y5⟩ := x7
  unfold f_X1_become
  refine rn_t (ks_o hK b1 1 (bck_o hb)) ?_
  refine r_gI hK (bck_o hb2) ?_
  rw [h2.1]
  refine r_pI hK (bck_o hb) ?_
  refine r_gP hK b1 1 1 (b1 + 1) (bck_o hb) hp.1 ?_
  refine r_gP hK b2 1 1 (b2 + 1) (bck_o hb2) hp2.1 ?_
  have hs0 : ES (IX z ow b1 b1) s ow (s.1, wI s.2 (z + b1) 0 (R 0)) ow := FD.es (sh := s.1) (fd_ix hwb.2 hwb.1)
  have f0 : (wI s.2 (z + b1) 0 (R 0)).1 (z + b1) 0 = R 0 := by rw [wI_s, va_up_s]
  have x1 := tb_ix x1 hK hw ht.1 hs0 (by omega)
  have x2 := tb_ix x2 hK hw ht.2.1 hs0 (by omega)
  have x3 := tb_ix x3 hK hw ht.2.2.1 hs0 (by omega)
  have x4 := tb_ix x4 hK hw ht.2.2.2 hs0 (by omega)
  have x5 : CE (s.1, wI s.2 (z + b1) 0 (R 0)).1 (s.1, wI s.2 (z + b1) 0 (R 0)).2 z ow b1 Lc (inC R1) (vC R1) := x5
  have h2 := bk_ix h2 hb2 hK hw hs0 (by omega)
  have hs0 : ES (IX z ow b1 (b1 + 36)) s ow (s.1, wI s.2 (z + b1) 0 (R 0)) ow := hs0.mono (fun a _ h => ix_mono h (by omega) (by omega))
  have c0 : (s.1, wI s.2 (z + b1) 0 (R 0)).1.1.2.2 = s.1.1.2.2 ∧ (s.1, wI s.2 (z + b1) 0 (R 0)).1.1.2.1 = s.1.1.2.1 := ⟨rfl, rfl⟩
  have hK0 : KS (s.1, wI s.2 (z + b1) 0 (R 0)).1 z := hK
  have f0 : (s.1, wI s.2 (z + b1) 0 (R 0)).2.1 (z + b1) 0 = R 0 := f0
  generalize (s.1, wI s.2 (z + b1) 0 (R 0)) = s0 at hs0 f0 x1 x2 x3 x4 x5 h2 c0 hK0 ⊢
  -- streets
  refine rn_bind (tb_become (by omega) ht.1 ht2.1 (by omega) (by omega) hK0 hw x1 h2.2.1) (fun s1 hs => ?_)
  obtain ⟨ow1, M1, e1, t1, b1', w1, m1⟩ := hs
  have e1 := e1.mono (fun a _ h => tx_ix ht.1 hw h)
  have f1 : s1.2.1 (z + b1) 0 = R 0 := by
    rw [((e1.2.2 (z + b1) (by have := hK0.2.1; omega)).2.2.2.2 (nix hwb.1 hwb.2 (by omega))).1]
    exact f0
  have x2 := tb_ix x2 hK0 hw ht.2.1 e1 (by omega)
  have x3 := tb_ix x3 hK0 hw ht.2.2.1 e1 (by omega)
  have x4 := tb_ix x4 hK0 hw ht.2.2.2 e1 (by omega)
  have x5 := ce_ix x5 hK0 hwb.1 hwb.2 e1 (by omega)
  have h2 := bk_ix h2 hb2 hK0 hw e1 (by omega)
  have hK1 := KS.es hK0 e1
  have hw1 := OWS.es hw hK0 e1
  have hwb1 := bck_w hb hw1
  have hs1 := hs0.tr e1 (fun a ha h => ix_mono (ix_old hs0 ha h) (by omega) (by omega))
  unfold f_X1_become_19
  refine r_gP hK1 b1 1 2 (b1 + 12) (bck_o hb) hp.2.1 ?_
  refine r_gP hK1 b2 1 2 (b2 + 12) (bck_o hb2) hp2.2.1 ?_
  refine rn_bind (tb_become (by omega) ht.2.1 ht2.2.1 (by omega) (by omega) hK1 hw1 x2 h2.2.2.1) (fun s2 hs => ?_)
  obtain ⟨ow2, M2, e2, t2, b2', w2, m2⟩ := hs
  have e2 : ES (IX z ow1 (b1 + 12) (b1 + 12 + 1)) s1 ow1 s2 ow2 := e2.mono (fun a _ h => tx_ix ht.2.1 hw1 h)
  have f2 : s2.2.1 (z + b1) 0 = R 0 := by
    rw [((e2.2.2 (z + b1) (by have := hK1.2.1; omega)).2.2.2.2 (nix hwb1.1 hwb1.2 (by omega))).1]
    exact f1
  have t1 := tb_ix t1 hK1 hw1 ht.1 e2 (by omega)
  have x3 := tb_ix x3 hK1 hw1 ht.2.2.1 e2 (by omega)
  have x4 := tb_ix x4 hK1 hw1 ht.2.2.2 e2 (by omega)
  have x5 := ce_ix x5 hK1 hwb1.1 hwb1.2 e2 (by omega)
  have h2 := bk_ix h2 hb2 hK1 hw1 e2 (by omega)
  have hK2 := KS.es hK1 e2
  have hw2 := OWS.es hw1 hK1 e2
  have hwb2 := bck_w hb hw2
  have hs2 := hs1.tr e2 (fun a ha h => ix_mono (ix_old hs1 ha h) (by omega) (by omega))
  unfold f_X1_become_30
  refine r_gP hK2 b1 1 3 (b1 + 17) (bck_o hb) hp.2.2.1 ?_
  refine r_gP hK2 b2 1 3 (b2 + 17) (bck_o hb2) hp2.2.2.1 ?_
  refine rn_bind (tb_become (by omega) ht.2.2.1 ht2.2.2.1 (by omega) (by omega) hK2 hw2 x3 h2.2.2.2.1) (fun s3 hs => ?_)
  obtain ⟨ow3, M3, e3, t3, b3', w3, m3⟩ := hs
  have e3 : ES (IX z ow2 (b1 + 17) (b1 + 17 + 1)) s2 ow2 s3 ow3 := e3.mono (fun a _ h => tx_ix ht.2.2.1 hw2 h)
  have f3 : s3.2.1 (z + b1) 0 = R 0 := by
    rw [((e3.2.2 (z + b1) (by have := hK2.2.1; omega)).2.2.2.2 (nix hwb2.1 hwb2.2 (by omega))).1]
    exact f2
  have t1 := tb_ix t1 hK2 hw2 ht.1 e3 (by omega)
  have t2 := tb_ix t2 hK2 hw2 ht.2.1 e3 (by omega)
  have x4 := tb_ix x4 hK2 hw2 ht.2.2.2 e3 (by omega)
  have x5 := ce_ix x5 hK2 hwb2.1 hwb2.2 e3 (by omega)
  have h2 := bk_ix h2 hb2 hK2 hw2 e3 (by omega)
  have hK3 := KS.es hK2 e3
  have hw3 := OWS.es hw2 hK2 e3
  have hwb3 := bck_w hb hw3
  have hs3 := hs2.tr e3 (fun a ha h => ix_mono (ix_old hs2 ha h) (by omega) (by omega))
  unfold f_X1_become_41
  refine r_gP hK3 b1 1 4 (b1 + 28) (bck_o hb) hp.2.2.2.1 ?_
  refine r_gP hK3 b2 1 4 (b2 + 28) (bck_o hb2) hp2.2.2.2.1 ?_
  refine rn_bind (tb_become (by omega) ht.2.2.2 ht2.2.2.2 (by omega) (by omega) hK3 hw3 x4 h2.2.2.2.2.1) (fun s4 hs => ?_)
  obtain ⟨ow4, M4, e4, t4, b4', w4, m4⟩ := hs
  have e4 : ES (IX z ow3 (b1 + 28) (b1 + 28 + 1)) s3 ow3 s4 ow4 := e4.mono (fun a _ h => tx_ix ht.2.2.2 hw3 h)
  have f4 : s4.2.1 (z + b1) 0 = R 0 := by
    rw [((e4.2.2 (z + b1) (by have := hK3.2.1; omega)).2.2.2.2 (nix hwb3.1 hwb3.2 (by omega))).1]
    exact f3
  have t1 := tb_ix t1 hK3 hw3 ht.1 e4 (by omega)
  have t2 := tb_ix t2 hK3 hw3 ht.2.1 e4 (by omega)
  have t3 := tb_ix t3 hK3 hw3 ht.2.2.1 e4 (by omega)
  have x5 := ce_ix x5 hK3 hwb3.1 hwb3.2 e4 (by omega)
  have h2 := bk_ix h2 hb2 hK3 hw3 e4 (by omega)
  have hK4 := KS.es hK3 e4
  have hw4 := OWS.es hw3 hK3 e4
  have hwb4 := bck_w hb hw4
  have hs4 := hs3.tr e4 (fun a ha h => ix_mono (ix_old hs3 ha h) (by omega) (by omega))
  -- facts and partners
  unfold f_X1_become_52
  have a1 : (isA s4.1 (z + (b1 + 34)) 0 ∧ s4.1.2.2.1 (z + (b1 + 34)) = 7) ∧ (isA s4.1 (z + (b2 + 34)) 0 ∧ s4.1.2.2.1 (z + (b2 + 34)) = 7) ∧ (isA s4.1 (z + (b1 + 35)) 0 ∧ s4.1.2.2.1 (z + (b1 + 35)) = 60) ∧ (isA s4.1 (z + (b2 + 35)) 0 ∧ s4.1.2.2.1 (z + (b2 + 35)) = 60) := by
    rcases hb with rfl | rfl <;> rcases hb2 with rfl | rfl <;> exact ⟨ks_a hK4 _ 0 7 (by decide), ks_a hK4 _ 0 7 (by decide), ks_a hK4 _ 0 60 (by decide), ks_a hK4 _ 0 60 (by decide)⟩
  have o34 : ow4 (z + (b1 + 34)) = 0 ∧ ow4 (z + (b1 + 35)) = 0 := by
    rcases hb with rfl | rfl <;> exact ⟨hw4 _ (by decide) (by decide), hw4 _ (by decide) (by decide)⟩
  refine r_gP hK4 b2 1 5 (b2 + 34) (bck_o hb2) hp2.2.2.2.2.1 ?_
  refine r_gP hK4 b1 1 5 (b1 + 34) (bck_o hb) hp.2.2.2.2.1 ?_
  refine rn_eq (cpy_I (sp := 0) (dp := 0) (n := 7) a1.2.1 a1.1 (by omega) (by omega) (by omega) (by omega)) ?_
  refine r_gP hK4 b2 1 6 (b2 + 35) (bck_o hb2) hp2.2.2.2.2.2 ?_
  refine r_gP hK4 b1 1 6 (b1 + 35) (bck_o hb) hp.2.2.2.2.2 ?_
  refine rn_eq (cpy_I (sp := 0) (dp := 0) (n := 60) a1.2.2.2 a1.2.2.1 (by omega) (by omega) (by omega) (by omega)) ?_
  generalize va_cpy (s4.2.1 (z + (b2 + 34))) (s4.2.1 (z + (b1 + 34))) 0 0 7 = F1
  generalize va_cpy ((va_up s4.2.1 (z + (b1 + 34)) F1, s4.2.2).1 (z + (b2 + 35))) ((va_up s4.2.1 (z + (b1 + 34)) F1, s4.2.2).1 (z + (b1 + 35))) 0 0 60 = F2
  have e5 : ES (IX z ow4 (b1 + 34) (b1 + 35)) s4 ow4 (s4.1, (va_up (va_up s4.2.1 (z + (b1 + 34)) F1) (z + (b1 + 35)) F2, s4.2.2)) ow4 := FD.es (sh := s4.1) (d := s4.2) (fun a ha => by
    have q1 : a ≠ z + (b1 + 34) := fun e => ha (by rw [e]; unfold IX; rw [onr_s o34.1 (by rcases hb with rfl | rfl <;> decide)]; omega)
    have q2 : a ≠ z + (b1 + 35) := fun e => ha (by rw [e]; unfold IX; rw [onr_s o34.2 (by rcases hb with rfl | rfl <;> decide)]; omega)
    exact ⟨(va_up_n q2).trans (va_up_n q1), rfl, rfl, rfl⟩)
  have f5 : (va_up (va_up s4.2.1 (z + (b1 + 34)) F1) (z + (b1 + 35)) F2) (z + b1) 0 = R 0 := by
    rw [va_up_n (by omega), va_up_n (by omega)]
    exact f4
  have t1 := tb_ix t1 hK4 hw4 ht.1 e5 (by omega)
  have t2 := tb_ix t2 hK4 hw4 ht.2.1 e5 (by omega)
  have t3 := tb_ix t3 hK4 hw4 ht.2.2.1 e5 (by omega)
  have t4 := tb_ix t4 hK4 hw4 ht.2.2.2 e5 (by omega)
  have x5 := ce_ix x5 hK4 hwb4.1 hwb4.2 e5 (by omega)
  have h2 := bk_ix h2 hb2 hK4 hw4 e5 (by omega)
  have hs5 := hs4.tr e5 (fun a ha h => ix_mono (ix_old hs4 ha h) (by omega) (by omega))
  have hK5 := KS.es hK4 e5
  have c5 : (s4.1, ((va_up (va_up s4.2.1 (z + (b1 + 34)) F1) (z + (b1 + 35)) F2, s4.2.2) : Dt)).1 = s4.1 := rfl
  have f5 : (s4.1, ((va_up (va_up s4.2.1 (z + (b1 + 34)) F1) (z + (b1 + 35)) F2, s4.2.2) : Dt)).2.1 (z + b1) 0 = R 0 := f5
  show Rn ((f_X1_widenCells N (z + b1) (s4.1, (va_up (va_up s4.2.1 (z + (b1 + 34)) F1) (z + (b1 + 35)) F2, s4.2.2))).bind _) _
  generalize (s4.1, ((va_up (va_up s4.2.1 (z + (b1 + 34)) F1) (z + (b1 + 35)) F2, s4.2.2) : Dt)) = s5 at t1 t2 t3 t4 x5 h2 hs5 hK5 c5 f5 ⊢
  -- the cells of readings
  have x5 : CE s5.1 s5.2 z ow4 b1 Lc (inCg R 0) (vC R) := by
    obtain ⟨a, z1, z2, z3, z4, z5, z6⟩ := x5
    exact ⟨a, z1, z2, z3, z4, z5, fun k hk => by obtain ⟨g, h, q, -⟩ := hk; exact absurd q (Nat.not_lt_zero g)⟩
  refine rn_bind (widenCells hb n2 hK5 hw4 t2.1 x5 y5) (fun s6 hs => ?_)
  obtain ⟨ow6, Lc6, e6, g1, g2, g3, w6, m6, i6⟩ := hs
  have f6 : s6.2.1 (z + b1) 0 = R 0 := by
    rw [i6]
    exact f5
  have t1 := tb_ix t1 hK5 hw4 ht.1 e6 (by omega)
  have t2 := tb_ix t2 hK5 hw4 ht.2.1 e6 (by omega)
  have t3 := tb_ix t3 hK5 hw4 ht.2.2.1 e6 (by omega)
  have t4 := tb_ix t4 hK5 hw4 ht.2.2.2 e6 (by omega)
  have h2 := bk_ix h2 hb2 hK5 hw4 e6 (by omega)
  have hs6 := hs5.tr e6 (fun a ha h => ix_mono (ix_old hs5 ha h) (by omega) (by omega))
  have hK6 := KS.es hK5 e6
  have hw6 := OWS.es hw4 hK5 e6
  unfold f_X1_become_86
  refine rn_mono (cells_loop hb hb2 hd hK6 hw6 hN hG g2 h2.2.2.2.2.2.2.1 (nn R 2) 0 N s6.2 (by omega) (by omega) t2 h2.2.2.2.2.2.1 g1) (fun s' hs => ?_)
  obtain ⟨k1, k2, k3, k4, k5⟩ := hs
  have e : s' = (s6.1, s'.2) := Prod.ext k1 rfl
  have k4 := FD.es (sh := s6.1) (ow := ow6) k4
  rw [e]
  refine ⟨ow6, (M1, M2, M3, M4, Lc6), hs6.tr k4 (fun a ha h => ix_mono (ix_old hs6 ha h) (by omega) (by omega)), ⟨?_, tb_ix t1 hK6 hw6 ht.1 k4 (by omega), tb_ix t2 hK6 hw6 ht.2.1 k4 (by omega), tb_ix t3 hK6 hw6 ht.2.2.1 k4 (by omega), tb_ix t4 hK6 hw6 ht.2.2.2 k4 (by omega), k5, g2, ?_⟩, ?_, ?_⟩
  · show s'.2.1 (z + b1) 0 = R 0
    rw [k2]
    exact f6
  · refine ⟨fun c hc => ?_, fun c hc => ?_, fun c hc => ?_, fun c hc => ?_, g3⟩
    · have := b1' c hc
      have := y1 c hc
      show M1 c ≤ 300
      simp only at *
      omega
    · have := b2' c hc
      have := y2 c hc
      show M2 c ≤ 40
      simp only at *
      omega
    · have := b3' c hc
      have := y3 c hc
      show M3 c ≤ 24
      simp only at *
      omega
    · have := b4' c hc
      have := y4 c hc
      show M4 c ≤ 4000
      simp only at *
      omega
  · show s6.1.1.2.2 + 2 * (smN L1 9 + smN L2 3 + smN L3 9 + smN L4 4 + Lc) ≤ s.1.1.2.2 + 2 * (smN M1 9 + smN M2 3 + smN M3 9 + smN M4 4 + Lc6)
    rw [c5] at w6
    simp only at *
    omega
  · show 4 * s6.1.1.2.1 + (smN L1 9 + smN L2 3 + smN L3 9 + smN L4 4 + Lc) ≤ 4 * s.1.1.2.1 + (smN M1 9 + smN M2 3 + smN M3 9 + smN M4 4 + Lc6)
    rw [c5] at m6
    simp only at *
    omega
end BC
/-! 49.chg.lean.txt -/
section CH
variable {sh : Sh} {d : Dt} {z : Nat} {ow : Nat → Nat} {R K : Nat → Int32} {N : Nat}
theorem z0 : z + 0 = z := Nat.add_zero z
/-- only the log's cells are touched -/
def LG (z : Nat) (d d' : Dt) : Prop := d'.2 = d.2 ∧ ∀ a, a ≠ z + 1 → a ≠ z + 2 → d'.1 a = d.1 a
theorem LG.rf : LG z d d := ⟨rfl, fun _ _ _ => rfl⟩
theorem LG.tr {d1 d2 : Dt} (h1 : LG z d d1) (h2 : LG z d1 d2) : LG z d d2 := ⟨h2.1.trans h1.1, fun a q1 q2 => (h2.2 a q1 q2).trans (h1.2 a q1 q2)⟩
theorem LG.w1 {k : Nat} {v : Int32} : LG z d (wI d (z + 1) k v) := ⟨rfl, fun a q1 _ => wI_n q1⟩
theorem LG.w2 {k : Nat} {v : Int32} : LG z d (wI d (z + 2) k v) := ⟨rfl, fun a _ q2 => wI_n q2⟩
theorem LG.ix {d' : Dt} (hw : OWS ow z) (h : LG z d d') : FD (IX z ow 1 2) d d' := fun a ha => by
  have q1 : a ≠ z + 1 := fun e => ha (by rw [e]; unfold IX; rw [onr_s (hw 1 (by decide) (by decide)) (by decide)]; omega)
  have q2 : a ≠ z + 2 := fun e => ha (by rw [e]; unfold IX; rw [onr_s (hw 2 (by decide) (by decide)) (by decide)]; omega)
  exact ⟨h.2 a q1 q2, by rw [h.1], by rw [h.1], by rw [h.1]⟩
theorem k_answer {v : Int32} (hK : KS sh z) : Rn (f_X11_answer N sh z v d) (fun r => r.1 = v ∧ LG z d r.2) := by
  unfold f_X11_answer
  rw [← z0 (z := z)]
  refine rn_t (ks_o hK 0 11 rfl) ?_
  refine r_gP hK 0 11 0 1 rfl (by decide) ?_
  refine r_pI hK (i := 1) (c := 2) rfl ?_
  exact rn_some ⟨rfl, LG.w1⟩
theorem k_find {v : Int32} (hK : KS sh z) : Rn (f_X2_find N sh (z + 1) v d) (fun r => LG z d r) := by
  unfold f_X2_find
  refine rn_t (ks_o hK 1 2 rfl) ?_
  have ha := ks_a hK 2 0 5 rfl
  refine rn_ite (fun h1 => ?_) (fun h1 => ?_)
  · refine rn_ite (fun h2 => rn_some LG.rf) (fun h2 => ?_)
    refine rn_ite (fun h3 => rn_some LG.rf) (fun h3 => ?_)
    refine r_gP hK 1 2 0 2 rfl (by decide) ?_
    have hv : ∃ j, j < 5 ∧ (-4 : Int32) - v = nI j := by
      have e1 : ¬ (-4 : Int32) < v := h2
      have e2 : ¬ v < (-7 : Int32) := h3
      rw [Int32.lt_iff_toInt_lt] at e1 e2
      have e3 : (-4 : Int32).toInt = -4 := by decide
      have e4 : (-7 : Int32).toInt = -7 := by decide
      rw [e3] at e1
      rw [e4] at e2
      have e5 : v.toInt = -4 ∨ v.toInt = -5 ∨ v.toInt = -6 ∨ v.toInt = -7 := by omega
      rcases e5 with e | e | e | e
      · have : v = -4 := Int32.toInt_inj.mp (e.trans (by decide))
        exact ⟨0, by decide, by rw [this]; decide⟩
      · have : v = -5 := Int32.toInt_inj.mp (e.trans (by decide))
        exact ⟨1, by decide, by rw [this]; decide⟩
      · have : v = -6 := Int32.toInt_inj.mp (e.trans (by decide))
        exact ⟨2, by decide, by rw [this]; decide⟩
      · have : v = -7 := Int32.toInt_inj.mp (e.trans (by decide))
        exact ⟨3, by decide, by rw [this]; decide⟩
    obtain ⟨j, hj, ej⟩ := hv
    rw [ej]
    refine rn_eq (q_aT ha j rfl hj (by decide)) ?_
    refine rn_eq (q_sI ha j rfl hj (by decide)) ?_
    exact rn_some LG.w2
  · refine r_gP hK 1 2 0 2 rfl (by decide) ?_
    refine rn_eq (q_aT ha 4 rfl (by decide) (by decide)) ?_
    refine rn_eq (q_sI ha 4 rfl (by decide) (by decide)) ?_
    exact rn_some LG.w2
theorem k_refuse {v : Int32} (hK : KS sh z) : Rn (f_X11_refuse N sh z v d) (fun r => r.1 = v ∧ LG z d r.2) := by
  unfold f_X11_refuse
  rw [← z0 (z := z)]
  refine rn_t (ks_o hK 0 11 rfl) ?_
  refine r_gP hK 0 11 0 1 rfl (by decide) ?_
  refine r_pI hK (i := 1) (c := 2) rfl ?_
  refine r_gP hK 0 11 0 1 rfl (by decide) ?_
  refine rn_bind (k_find hK) (fun d' hd => ?_)
  exact rn_some ⟨rfl, LG.w1.tr hd⟩
theorem k_forget (hK : KS sh z) : f_X11_forgetWays N sh z d = some (wI (wI (wI d (z + 77) 5 0) (z + 201) 4 0) (z + 201) 7 0) := by
  refine rn_val ?_
  unfold f_X11_forgetWays
  rw [← z0 (z := z)]
  refine rn_t (ks_o hK 0 11 rfl) ?_
  refine r_gP hK 0 11 3 77 rfl (by decide) ?_
  refine rn_eq (v := wI d (z + 77) 5 0) ?_ ?_
  · refine rn_val ?_
    unfold f_X10_forget
    refine rn_t (ks_o hK 77 10 rfl) ?_
    exact r_pI hK (i := 77) (c := 10) rfl (rn_some rfl)
  · refine r_gP hK 0 11 4 201 rfl (by decide) ?_
    refine rn_eq (v := wI (wI (wI d (z + 77) 5 0) (z + 201) 4 0) (z + 201) 7 0) ?_ (rn_some rfl)
    refine rn_val ?_
    unfold f_X4_forget
    refine rn_t (ks_o hK 201 4 rfl) ?_
    refine r_pI hK (i := 201) (c := 4) rfl ?_
    exact r_pI hK (i := 201) (c := 4) rfl (rn_some rfl)
/-- a CHANGE is kept, and the ways are forgotten -/
theorem k_change {s : AS} {qn qb : BL} (hNf : 30 ≤ N) (hK : KS s.1 z) (hw : OWS ow z) (hNK : WN K) (hN : WN R) (hG : WG R) (h1 : BK s.1 s.2 z ow 3 R qn) (h2 : BK s.1 s.2 z ow 40 K qb) : Rn (f_X11_change N z s) (fun s' => ∃ ow' q' s1, ES (IX z ow 40 76) s ow s1 ow' ∧ BK s1.1 s1.2 z ow' 40 R q' ∧ BK s1.1 s1.2 z ow' 3 R qn ∧ s' = (s1.1, wI (wI (wI (wI s1.2 z 13 1) (z + 77) 5 0) (z + 201) 4 0) (z + 201) 7 0) ∧ s1.1.1.2.2 + 2 * pot qb ≤ s.1.1.2.2 + 2 * pot q' ∧ 4 * s1.1.1.2.1 + pot qb ≤ 4 * s.1.1.2.1 + pot q') := by
  unfold f_X11_change
  rw [← z0 (z := z)]
  refine rn_t (ks_o hK 0 11 rfl) ?_
  refine r_gP hK 0 11 2 40 rfl (by decide) ?_
  refine r_gP hK 0 11 1 3 rfl (by decide) ?_
  refine rn_bind (bk_become hNf (Or.inr rfl) (Or.inl rfl) (by omega) hK hw hNK hN hG h2 h1) (fun s1 hs => ?_)
  obtain ⟨ow1, q1, e1, x1, w1, m1⟩ := hs
  have hK1 := KS.es hK e1
  have x2 := bk_ix h1 (Or.inl rfl) hK hw e1 (by omega)
  unfold f_X11_change_11
  refine r_pI hK1 (i := 0) (c := 11) rfl ?_
  rw [z0]
  refine rn_eq (k_forget hK1) ?_
  exact rn_some ⟨ow1, q1, s1, e1, x1, x2, rfl, w1, m1⟩
end CH
/-! 50.ref.lean.txt -/
/-! the reference: its state is the row at z + 243 -/
section RF
variable {β : Type} {Q : β → Prop} {sh : Sh} {d : Dt} {z : Nat} {R : Nat → Int32} {N : Nat}
/-- only status, findings are touched -/
def RG (z : Nat) (d d' : Dt) : Prop := d'.2 = d.2 ∧ (∀ a, a ≠ z + 242 → a ≠ z + 245 → d'.1 a = d.1 a) ∧ ∀ k, k ≠ 3 → k ≠ 4 → k ≠ 5 → d'.1 (z + 242) k = d.1 (z + 242) k
theorem RG.rf : RG z d d := ⟨rfl, fun _ _ _ => rfl, fun _ _ _ _ => rfl⟩
theorem RG.tr {d1 d2 : Dt} (h1 : RG z d d1) (h2 : RG z d1 d2) : RG z d d2 := ⟨h2.1.trans h1.1, fun a q1 q2 => (h2.2.1 a q1 q2).trans (h1.2.1 a q1 q2), fun k q1 q2 q3 => (h2.2.2 k q1 q2 q3).trans (h1.2.2 k q1 q2 q3)⟩
theorem RG.w242 {k : Nat} {v : Int32} (hk : k = 3 ∨ k = 4 ∨ k = 5) : RG z d (wI d (z + 242) k v) := ⟨rfl, fun a q1 _ => wI_n q1, fun j q1 q2 q3 => by rw [wI_s, va_up_n (by omega)]⟩
theorem RG.w245 {k : Nat} {v : Int32} : RG z d (wI d (z + 245) k v) := ⟨rfl, fun a _ q2 => wI_n q2, fun j _ _ _ => by rw [wI_n (by omega)]⟩
theorem rd {g : Int32 → Option β} {x : Int32} (hK : KS sh z) (hR : d.1 (z + 243) = R) (j : Nat) (hx : x = nI j) (hj : j < 15642) (kk : Rn (g (R j)) Q) : Rn ((gP sh (z + 242) 12 0).bind fun v => (aT 0 sh d v x).bind g) Q := by
  refine r_gP hK 242 12 0 243 rfl (by decide) ?_
  refine rn_eq (q_aT (ks_a hK 243 0 15642 rfl) j hx hj (by decide)) ?_
  rw [hR]
  exact kk
theorem wr {g : Dt → Option β} {x v : Int32} (hK : KS sh z) (j : Nat) (hx : x = nI j) (hj : j < 15642) (kk : Rn (g (wI d (z + 243) j v)) Q) : Rn ((gP sh (z + 242) 12 0).bind fun a => (sI sh d a x v).bind g) Q := by
  refine r_gP hK 242 12 0 243 rfl (by decide) ?_
  exact rn_eq (q_sI (ks_a hK 243 0 15642 rfl) j hx hj (by decide)) kk
theorem ix_st (s k : Nat) : (16 : Int32) + (9 : Int32) * nI s + nI k = nI (16 + 9 * s + k) := by
  rw [show (9 : Int32) = nI 9 from rfl, show (16 : Int32) = nI 16 from rfl, pk_mul, nI_add, nI_add]
theorem ix_ga (s k : Nat) : (1366 : Int32) + (3 : Int32) * nI s + nI k = nI (1366 + 3 * s + k) := by
  rw [show (3 : Int32) = nI 3 from rfl, show (1366 : Int32) = nI 1366 from rfl, pk_mul, nI_add, nI_add]
theorem ix_ga0 (s : Nat) : (1366 : Int32) + (3 : Int32) * nI s = nI (1366 + 3 * s) := by
  rw [show (3 : Int32) = nI 3 from rfl, show (1366 : Int32) = nI 1366 from rfl, pk_mul, nI_add]
theorem ix_pl (s k : Nat) : (9426 : Int32) + (13 : Int32) * nI s + nI k = nI (9426 + 13 * s + k) := by
  rw [show (13 : Int32) = nI 13 from rfl, show (9426 : Int32) = nI 9426 from rfl, pk_mul, nI_add, nI_add]
theorem lt_pred {n : Nat} {v : Int32} (hn : n < 2 ^ 31) : nI n - 1 < v ↔ nI n ≤ v := by
  rw [Int32.lt_iff_toInt_lt, Int32.le_iff_toInt_le]
  rcases n with _ | n
  · have e1 : (nI 0 - 1).toInt = -1 := by decide
    have e2 : (nI 0).toInt = 0 := by decide
    rw [e1, e2]
    omega
  · rw [nI_pred, nI_toInt (by omega), nI_toInt hn]
    omega
theorem m_in {v lo hi : Int32} : f_X12_in N sh v lo hi d = some (if v < lo ∨ hi < v then 0 else 1) := by
  refine rn_val ?_
  unfold f_X12_in
  refine rn_ite (fun h0 => ?_) (fun h0 => ?_)
  · rw [if_pos (Or.inl h0)]
    exact ⟨0, rfl, rfl⟩
  · refine rn_ite (fun h1 => ?_) (fun h1 => ?_)
    · rw [if_pos (Or.inr h1)]
      exact ⟨0, rfl, rfl⟩
    · rw [if_neg (fun q => q.elim h0 h1)]
      exact ⟨1, rfl, rfl⟩
theorem m_lesser {x y : Int32} : f_X12_lesser N sh x y d = some (if y ≤ x then y else x) := by
  unfold f_X12_lesser
  split <;> rfl
theorem m_says {v : Int32} (hK : KS sh z) : f_X12_says N sh (z + 242) v d = some (v, wI d (z + 242) 3 0) := by
  refine rn_val ?_
  unfold f_X12_says
  refine rn_t (ks_o hK 242 12 rfl) ?_
  exact r_pI hK (i := 242) (c := 12) rfl (rn_some rfl)
theorem m_finds {v : Int32} (hK : KS sh z) : Rn (f_X12_finds N sh (z + 242) v d) (fun r => RG z d r) := by
  unfold f_X12_finds
  refine rn_t (ks_o hK 242 12 rfl) ?_
  have ha := ks_a hK 245 0 5 rfl
  have h28 : Rn (f_X12_finds_28 N sh (z + 242) v d) (fun r => RG z d r) := by
    unfold f_X12_finds_28
    refine rn_ite (fun _ => rn_some RG.rf) (fun _ => ?_)
    refine r_gP hK 242 12 6 245 rfl (by decide) ?_
    refine rn_eq (q_aT ha 4 rfl (by decide) (by decide)) ?_
    refine rn_eq (q_sI ha 4 rfl (by decide) (by decide)) ?_
    exact rn_some RG.w245
  refine rn_ite (fun _ => h28) (fun h2 => ?_)
  refine rn_ite (fun _ => h28) (fun h3 => ?_)
  refine r_gP hK 242 12 6 245 rfl (by decide) ?_
  have hv : ∃ j, j < 5 ∧ (-4 : Int32) - v = nI j := by
    have e1 : ¬ (-4 : Int32) < v := h2
    have e2 : ¬ v < (-7 : Int32) := h3
    rw [Int32.lt_iff_toInt_lt] at e1 e2
    have e3 : (-4 : Int32).toInt = -4 := by decide
    have e4 : (-7 : Int32).toInt = -7 := by decide
    rw [e3] at e1
    rw [e4] at e2
    have e5 : v.toInt = -4 ∨ v.toInt = -5 ∨ v.toInt = -6 ∨ v.toInt = -7 := by omega
    rcases e5 with e | e | e | e
    · have : v = -4 := Int32.toInt_inj.mp (e.trans (by decide))
      exact ⟨0, by decide, by rw [this]; decide⟩
    · have : v = -5 := Int32.toInt_inj.mp (e.trans (by decide))
      exact ⟨1, by decide, by rw [this]; decide⟩
    · have : v = -6 := Int32.toInt_inj.mp (e.trans (by decide))
      exact ⟨2, by decide, by rw [this]; decide⟩
    · have : v = -7 := Int32.toInt_inj.mp (e.trans (by decide))
      exact ⟨3, by decide, by rw [this]; decide⟩
  obtain ⟨j, hj, ej⟩ := hv
  rw [ej]
  refine rn_eq (q_aT ha j rfl hj (by decide)) ?_
  refine rn_eq (q_sI ha j rfl hj (by decide)) ?_
  exact rn_some RG.w245
theorem m_refuses {v : Int32} (hK : KS sh z) : Rn (f_X12_refuses N sh (z + 242) v d) (fun r => r.1 = v ∧ RG z d r.2) := by
  unfold f_X12_refuses
  refine rn_t (ks_o hK 242 12 rfl) ?_
  refine r_pI hK (i := 242) (c := 12) rfl ?_
  refine rn_bind (m_finds hK) (fun d' hd => ?_)
  exact rn_some ⟨rfl, (RG.w242 (Or.inl rfl)).tr hd⟩
theorem o_bool_ite {c : Prop} {q : Decidable c} : o_bool (@ite _ c q 0 1) = some (@ite _ c q 0 1) := by
  by_cases h : c
  · rw [if_pos h]
    rfl
  · rw [if_neg h]
    rfl
theorem m_isCrossing {v : Int32} (hK : KS sh z) (hR : d.1 (z + 243) = R) (hn : R 0 = nI (nn R 0)) (hb : nn R 0 < 2 ^ 31) : f_X12_isCrossing N sh (z + 242) v d = some (if v < 0 ∨ nI (nn R 0) ≤ v then 0 else 1) := by
  refine rn_val ?_
  unfold f_X12_isCrossing
  refine rn_t (ks_o hK 242 12 rfl) ?_
  refine rd hK hR 0 rfl (by decide) ?_
  rw [hn]
  refine rn_eq m_in ?_
  simp only [lt_pred hb]
  exact rn_eq o_bool_ite (rn_some rfl)
theorem m_isStreet {v : Int32} (hK : KS sh z) (hR : d.1 (z + 243) = R) (hn : R 1 = nI (nn R 1)) (hb : nn R 1 < 2 ^ 31) : f_X12_isStreet N sh (z + 242) v d = some (if v < 0 ∨ nI (nn R 1) ≤ v then 0 else 1) := by
  refine rn_val ?_
  unfold f_X12_isStreet
  refine rn_t (ks_o hK 242 12 rfl) ?_
  refine rd hK hR 1 rfl (by decide) ?_
  rw [hn]
  refine rn_eq m_in ?_
  simp only [lt_pred hb]
  exact rn_eq o_bool_ite (rn_some rfl)
theorem m_isGauge {v : Int32} (hK : KS sh z) (hR : d.1 (z + 243) = R) (hn : R 2 = nI (nn R 2)) (hb : nn R 2 < 2 ^ 31) : f_X12_isGauge N sh (z + 242) v d = some (if v < 0 ∨ nI (nn R 2) ≤ v then 0 else 1) := by
  refine rn_val ?_
  unfold f_X12_isGauge
  refine rn_t (ks_o hK 242 12 rfl) ?_
  refine rd hK hR 2 rfl (by decide) ?_
  rw [hn]
  refine rn_eq m_in ?_
  simp only [lt_pred hb]
  exact rn_eq o_bool_ite (rn_some rfl)
theorem m_isPlough {v : Int32} (hK : KS sh z) (hR : d.1 (z + 243) = R) (hn : R 3 = nI (nn R 3)) (hb : nn R 3 < 2 ^ 31) : f_X12_isPlough N sh (z + 242) v d = some (if v < 0 ∨ nI (nn R 3) ≤ v then 0 else 1) := by
  refine rn_val ?_
  unfold f_X12_isPlough
  refine rn_t (ks_o hK 242 12 rfl) ?_
  refine rd hK hR 3 rfl (by decide) ?_
  rw [hn]
  refine rn_eq m_in ?_
  simp only [lt_pred hb]
  exact rn_eq o_bool_ite (rn_some rfl)
theorem m_st {v : Int32} (hK : KS sh z) : f_X12_st N sh (z + 242) v d = some ((16 : Int32) + (9 : Int32) * v) := if_pos (ks_o hK 242 12 rfl)
theorem m_ga {v : Int32} (hK : KS sh z) : f_X12_ga N sh (z + 242) v d = some ((1366 : Int32) + (3 : Int32) * v) := if_pos (ks_o hK 242 12 rfl)
theorem m_pl {v : Int32} (hK : KS sh z) : f_X12_pl N sh (z + 242) v d = some ((9426 : Int32) + (13 : Int32) * v) := if_pos (ks_o hK 242 12 rfl)
/-- what is kept: the row z + 244 as far as it reaches -/
def kp (R K : Nat → Int32) (i : Nat) : Nat → Int32 := fun k => if k < i then R k else K k
theorem keeps_loop (hK : KS sh z) : ∀ (m i fu : Nat) (d : Dt), i + m = 15642 → m < fu → d.1 (z + 243) = R → f_X12_keeps_2 N sh fu (z + 242) (nI i) d = some (wI (va_up d.1 (z + 244) (fun k => if i ≤ k ∧ k < 15642 then R k else d.1 (z + 244) k), d.2) (z + 242) 2 1)
  | 0, i, fu, d, hi, hf, hR => by
    obtain ⟨fu, rfl⟩ : ∃ q, fu = q + 1 := ⟨fu - 1, by omega⟩
    show g_X12_keeps_2 N sh (f_X12_keeps_2 N sh fu) (z + 242) (nI i) d = _
    refine rn_val ?_
    unfold g_X12_keeps_2
    have e : i = 15642 := by omega
    subst e
    refine rn_t (by decide) ?_
    unfold f_X12_keeps_27
    refine r_pI hK (i := 242) (c := 12) rfl (rn_some ?_)
    congr 1
    refine Prod.ext ?_ rfl
    funext b
    by_cases e : b = z + 244
    · subst e
      show d.1 (z + 244) = va_up d.1 (z + 244) _ (z + 244)
      rw [va_up_s]
      funext k
      rw [if_neg (by omega)]
    · show d.1 b = va_up d.1 (z + 244) _ b
      rw [va_up_n e]
  | m + 1, i, fu, d, hi, hf, hR => by
    obtain ⟨fu, rfl⟩ : ∃ q, fu = q + 1 := ⟨fu - 1, by omega⟩
    show g_X12_keeps_2 N sh (f_X12_keeps_2 N sh fu) (z + 242) (nI i) d = _
    refine rn_val ?_
    unfold g_X12_keeps_2
    refine rn_f (nI_ge (a := i) (b := 15642) (by omega) (by decide)) ?_
    refine r_gP hK 242 12 1 244 rfl (by decide) ?_
    refine rd hK hR i rfl (by omega) ?_
    refine rn_eq (q_sI (ks_a hK 244 0 15642 rfl) i rfl (by omega) (by decide)) ?_
    rw [nI_1, keeps_loop hK m (i + 1) fu (wI d (z + 244) i (R i)) (by omega) (by omega) (by rw [wI_n (by omega)]; exact hR)]
    refine rn_some ?_
    congr 1
    refine Prod.ext ?_ rfl
    funext b
    by_cases e : b = z + 244
    · subst e
      show va_up (wI d (z + 244) i (R i)).1 (z + 244) _ (z + 244) = va_up d.1 (z + 244) _ (z + 244)
      rw [va_up_s, va_up_s, wI_s]
      funext k
      by_cases h1 : k = i
      · subst h1
        rw [if_neg (by omega), if_pos (by omega), va_up_s]
      · rw [va_up_n h1]
        by_cases h2 : i ≤ k ∧ k < 15642
        · rw [if_pos (by omega), if_pos h2]
        · rw [if_neg (by omega), if_neg h2]
    · show va_up (wI d (z + 244) i (R i)).1 (z + 244) _ b = va_up d.1 (z + 244) _ b
      rw [va_up_n e, va_up_n e, wI_n e]
theorem m_keeps (hK : KS sh z) (hN : 15642 < N) (hR : d.1 (z + 243) = R) : f_X12_keeps N sh (z + 242) d = some (wI (va_up d.1 (z + 244) (fun k => if k < 15642 then R k else d.1 (z + 244) k), d.2) (z + 242) 2 1) := by
  unfold f_X12_keeps
  rw [if_pos (ks_o hK 242 12 rfl)]
  show f_X12_keeps_2 N sh N (z + 242) (nI 0) d = _
  rw [keeps_loop hK 15642 0 N d (by omega) (by omega) hR]
  simp
end RF
/-! 51.inv.lean.txt -/
/-! the map of R: streets that lead, walks, least lengths -/
def edge (R : Nat → Int32) (s u v : Nat) : Prop := s < nn R 1 ∧ R (16 + 9 * s + 4) = 0 ∧ ((R (16 + 9 * s + 7) = nI u ∧ R (16 + 9 * s + 8) = nI v) ∨ (R (16 + 9 * s + 5) = 0 ∧ R (16 + 9 * s + 8) = nI u ∧ R (16 + 9 * s + 7) = nI v))
def sln (R : Nat → Int32) (s : Nat) : Nat := nn R (16 + 9 * s + 6)
def wk (R : Nat → Int32) : List Nat → Nat → Nat → Prop
  | [], u, v => u = v
  | s :: p, u, v => ∃ c, c < nn R 0 ∧ edge R s u c ∧ wk R p c v
def wln (R : Nat → Int32) : List Nat → Nat
  | [] => 0
  | s :: p => sln R s + wln R p
def dst (R : Nat → Int32) (u v n : Nat) : Prop := (∃ p, wk R p u v ∧ wln R p = n) ∧ ∀ p, wk R p u v → n ≤ wln R p
def dOK (R : Nat → Int32) (far u v : Nat) (x : Int32) : Prop := (∃ n, dst R u v n ∧ n < 2 ^ 28 ∧ x = nI n) ∨ ((∀ p, ¬ wk R p u v) ∧ x = nI far)
def bit (x : Int64) (u : Nat) : Bool := x.toBitVec.getLsbD u
/-! what is well formed -/
def WS (R : Nat → Int32) : Prop := ∀ s, s < nn R 1 → (∃ a b, a < nn R 0 ∧ b < nn R 0 ∧ a ≠ b ∧ R (16 + 9 * s + 7) = nI a ∧ R (16 + 9 * s + 8) = nI b) ∧ (R (16 + 9 * s + 6) = nI (sln R s) ∧ 1 ≤ sln R s ∧ sln R s ≤ 10000) ∧ (R (16 + 9 * s + 5) = 0 ∨ R (16 + 9 * s + 5) = 1) ∧ (R (16 + 9 * s + 4) = 0 ∨ R (16 + 9 * s + 4) = 1) ∧ (R (16 + 9 * s + 3) = nI (nn R (16 + 9 * s + 3)) ∧ nn R (16 + 9 * s + 3) ≤ 2)
def WC (R : Nat → Int32) : Prop := (∀ g, g < nn R 2 → (∃ c, c < nn R 0 ∧ R (1366 + 3 * g) = nI c) ∧ (R (1366 + 3 * g + 1) = 0 ∨ R (1366 + 3 * g + 1) = 1)) ∧ ∀ k, inC R k → R (5426 + k) = 0 ∨ R (5426 + k) = 1 ∨ R (5426 + k) = 2
def WP (R : Nat → Int32) : Prop := ∀ p, p < nn R 3 → (R (9426 + 13 * p) = nI (nn R (9426 + 13 * p)) ∧ nn R (9426 + 13 * p) ≤ 4) ∧ (nn R (9426 + 13 * p) = 4 → ∃ a b, a < nn R 3 ∧ b < nn R 3 ∧ R (9426 + 13 * p + 3) = nI a ∧ R (9426 + 13 * p + 4) = nI b ∧ nn R (9426 + 13 * a) ≤ 3 ∧ nn R (9426 + 13 * b) ≤ 3) ∧ (R (9426 + 13 * p + 1) = nI (nn R (9426 + 13 * p + 1)) ∧ nn R (9426 + 13 * p + 1) ≤ 10000) ∧ (R (9426 + 13 * p + 2) = 0 ∨ R (9426 + 13 * p + 2) = 1) ∧ (∃ f m e, R (9426 + 13 * p + 6) = nI f ∧ R (9426 + 13 * p + 7) = nI m ∧ R (9426 + 13 * p + 8) = nI e ∧ e ≤ m ∧ f + m ≤ nn R 4)
def WD (R : Nat → Int32) : Prop := ∀ i, i < nn R 4 → ∃ s c, s < nn R 1 ∧ R (9642 + 3 * i) = nI s ∧ R (9642 + 3 * i + 1) = nI c ∧ (R (16 + 9 * s + 7) = nI c ∨ R (16 + 9 * s + 8) = nI c) ∧ (R (9642 + 3 * i + 2) = 0 ∨ R (9642 + 3 * i + 2) = 1)
def WF (R : Nat → Int32) : Prop := WN R ∧ WG R ∧ WS R ∧ WC R ∧ WP R ∧ WD R
/-! the class: its ways and its pairing, as far as they are kept -/
def HopOK (d : Dt) (z : Nat) (R : Nat → Int32) : Prop := (∀ u v, u < 60 → v < 60 → ((d.1 (z + (79 + u)) v = -1 ∧ ∀ s, ¬ edge R s u v) ∨ ∃ s, d.1 (z + (79 + u)) v = nI s ∧ edge R s u v ∧ ∀ s', edge R s' u v → sln R s < sln R s' ∨ (sln R s = sln R s' ∧ s ≤ s')) ∧ (bit (d.2.1 (z + 139) v) u = true ↔ ∃ s, edge R s u v)) ∧ ∀ u v, v < 60 → 60 ≤ u → bit (d.2.1 (z + 139) v) u = false
def GapOK (d : Dt) (z : Nat) (R : Nat → Int32) : Prop := ∀ v, v < 60 → bit (d.2.1 (z + 77) 4) v = true → ∀ u, u < 60 → dOK R 1000000000 u v (d.1 (z + (141 + v)) u)
def WY (d : Dt) (z : Nat) (R : Nat → Int32) : Prop := d.1 (z + 77) 5 = 0 ∨ (d.1 (z + 77) 5 = 1 ∧ HopOK d z R ∧ GapOK d z R)
/-- the ODD CROSSINGS of R, in order -/
def dgr (R : Nat → Int32) (c : Nat) : Nat → Nat
  | 0 => 0
  | s + 1 => dgr R c s + if R (16 + 9 * s + 4) = 0 ∧ (R (16 + 9 * s + 7) = nI c ∨ R (16 + 9 * s + 8) = nI c) then nn R (16 + 9 * s + 3) else 0
def oddl (R : Nat → Int32) : List Nat := (List.range (nn R 0)).filter (fun c => dgr R c (nn R 1) % 2 = 1)
def PRl (d : Dt) (z : Nat) (R : Nat → Int32) : Prop := d.1 (z + 201) 4 = 0 ∨ (d.1 (z + 201) 4 = 1 ∧ d.1 (z + 201) 3 = nI (oddl R).length ∧ ∀ i, i < (oddl R).length → d.1 (z + 202) i = nI ((oddl R).getD i 0))
noncomputable def ddB (R : Nat → Int32) (B a b : Nat) : Nat := @ite _ (∃ n, dst R a b n) (Classical.propDecidable _) (Classical.epsilon (fun n => dst R a b n)) B
noncomputable def dd (R : Nat → Int32) (a b : Nat) : Nat := ddB R (10 ^ 12) a b
/-- the least f j of those j below n with P j -/
def mnJ (P : Nat → Bool) (f : Nat → Nat) : Nat → Nat
  | 0 => 10 ^ 12
  | j + 1 => if P j = true then min (mnJ P f j) (f j) else mnJ P f j
noncomputable def lowB (S : Nat) : Nat := Classical.epsilon (fun i => S.testBit i = true ∧ ∀ j, j < i → S.testBit j = false)
/-- S without i and j -/
def rm2 (S i j : Nat) : Nat := S ^^^ 2 ^ i ^^^ 2 ^ j
noncomputable def lsF (g : Nat → Nat → Nat) (m : Nat) : Nat → Nat → Nat
  | 0, _ => 0
  | k + 1, S => if S = 0 then 0 else mnJ (fun j => decide (lowB S < j) && S.testBit j) (fun j => g (lowB S) j + lsF g m k (rm2 S (lowB S) j)) m
noncomputable def gO (R : Nat → Int32) (i j : Nat) : Nat := dd R ((oddl R).getD i 0) ((oddl R).getD j 0)
noncomputable def LSx (R : Nat → Int32) (S : Nat) : Nat := lsF (gO R) (oddl R).length (oddl R).length S
/-- LEAST's table, if it is kept -/
def TabOK (d : Dt) (z : Nat) (R : Nat → Int32) : Prop := (oddl R).length ≤ 14 ∧ (∀ i j, i < j → j < (oddl R).length → d.1 (z + (204 + i)) j = nI (min (gO R i j) 1000000000)) ∧ ∃ a, d.2.2.2 (z + 201) 6 = some a ∧ ∀ S, S < 2 ^ (oddl R).length → d.1 a S = nI (min (LSx R S) 1000000000)
def PRt (d : Dt) (z : Nat) (R : Nat → Int32) : Prop := d.1 (z + 201) 7 = 0 ∨ (d.1 (z + 201) 7 = 1 ∧ TabOK d z R)
/-- the other static things of the class: spines of grids, the planner's table, LEAST's table, the text -/
def CS (sh : Sh) (d : Dt) (z : Nat) (ow : Nat → Nat) (Lp : Nat → Nat) (Lt Lg : Nat) : Prop :=
  ((∀ c, c < 60 → d.2.2.2 (z + 78) c = some (z + (79 + c))) ∧ (∀ c, c < 60 → d.2.2.2 (z + 140) c = some (z + (141 + c))) ∧ (∀ c, c < 14 → d.2.2.2 (z + 203) c = some (z + (204 + c)))) ∧
  ((∃ S V, TB sh d z ow 222 4 S V Lp ∧ S ≤ 2000) ∧ ∀ c, c < 4 → Lp c ≤ 4000) ∧
  (∃ a, d.2.2.2 (z + 201) 6 = some a ∧ ow a = 16 * 201 + 1 ∧ isA sh a 0 ∧ sh.2.2.1 a = Lt ∧ (∃ e, Lt = 2 ^ e) ∧ Lt ≤ 16384) ∧
  ∃ a g, d.2.2.2 (z + 0) 11 = some a ∧ ow a = 1 ∧ isA sh a 3 ∧ sh.2.2.1 a = Lg ∧ 16 ≤ Lg ∧ Lg ≤ 16000 ∧ d.1 (z + 0) 12 = nI g ∧ g ≤ Lg ∧ ∀ i, i < g → fits .char (.int (d.1 a i)) = true
/-- a body of a KIND that is no PAIR -/
def kcl (k : Nat) : Nat := if k = 1 then 10 else if k = 2 then 17 else if k = 3 then 19 else 16
def ksp (k : Nat) : Nat := if k = 1 then 30 else if k = 2 then 45 else if k = 3 then 20 else 50
def krc (k : Nat) : Nat := if k = 1 then 600 else if k = 3 then 400 else 200
def BO (sh : Sh) (d : Dt) (z : Nat) (ow : Nat → Nat) (a k : Nat) : Prop := sh.1.1 ≤ a ∧ a < sh.1.2.1 ∧ sh.2.1 a = kcl k ∧ sh.2.2.2 a 0 = some (z + 1) ∧ d.1 a 1 = nI (ksp k) ∧ d.1 a 2 = nI (krc k) ∧ ow a = 0 ∧ z + 264 ≤ a
def BP (sh : Sh) (d : Dt) (z : Nat) (ow : Nat → Nat) (a k1 k2 : Nat) : Prop := sh.1.1 ≤ a ∧ a < sh.1.2.1 ∧ sh.2.1 a = 13 ∧ sh.2.2.2 a 0 = some (z + 1) ∧ d.1 a 1 = nI (min (ksp k1) (ksp k2)) ∧ d.1 a 2 = nI (krc k1 + krc k2) ∧ ow a = 0 ∧ z + 264 ≤ a ∧ ∃ a1 a2, sh.2.2.2 a 3 = some a1 ∧ sh.2.2.2 a 4 = some a2 ∧ BO sh d z ow a1 k1 ∧ BO sh d z ow a2 k2
def PB (sh : Sh) (d : Dt) (z : Nat) (ow : Nat → Nat) (R : Nat → Int32) : Prop := ∀ p, p < nn R 3 → ∃ a, d.2.2.2 (z + 235) p = some a ∧ ((nn R (9426 + 13 * p) ≤ 3 ∧ BO sh d z ow a (nn R (9426 + 13 * p))) ∨ (nn R (9426 + 13 * p) = 4 ∧ BP sh d z ow a (nn R (9426 + 13 * nn R (9426 + 13 * p + 3))) (nn R (9426 + 13 * nn R (9426 + 13 * p + 4)))))
/-- the class holds R, and K ahead of the latest CHANGE; c: calls so far -/
abbrev YL : Type := BL × BL × (Nat → Nat) × Nat × Nat
/-- a table of LEAST is long enough -/
def TLN (d : Dt) (z : Nat) (R : Nat → Int32) (Lt : Nat) : Prop := d.1 (z + 201) 7 = 1 → 2 ^ (oddl R).length ≤ Lt
theorem tln_0 {d : Dt} {z : Nat} {R : Nat → Int32} {Lt : Nat} (h : d.1 (z + 201) 7 = 0) : TLN d z R Lt := fun q => absurd (h.symm.trans q) (by decide)
theorem tln_eq {d d' : Dt} {z : Nat} {R : Nat → Int32} {Lt : Nat} (h : TLN d z R Lt) (e : d'.1 (z + 201) 7 = d.1 (z + 201) 7) : TLN d' z R Lt := fun q => h (e.symm.trans q)
def CI (s : AS) (z : Nat) (ow : Nat → Nat) (R K : Nat → Int32) (u : Bool) (y : YL) (c : Nat) : Prop :=
  KS s.1 z ∧ OWS ow z ∧ BK s.1 s.2 z ow 3 R y.1 ∧ BK s.1 s.2 z ow 40 K y.2.1 ∧ CS s.1 s.2 z ow y.2.2.1 y.2.2.2.1 y.2.2.2.2 ∧ PB s.1 s.2 z ow R ∧ PB s.1 s.2 z ow K ∧ WY s.2 z R ∧ PRl s.2 z R ∧ PRt s.2 z R ∧ s.2.1 (z + 0) 13 = (if u then 1 else 0) ∧ s.1.1.2.2 ≤ 75638 + 2 * (pot y.1 + pot y.2.1 + smN y.2.2.1 4 + y.2.2.2.1 + y.2.2.2.2) + 5 * c ∧ 4 * s.1.1.2.1 ≤ 4 * (z + 264) + (pot y.1 + pot y.2.1 + smN y.2.2.1 4 + 4 * y.2.2.2.1 + y.2.2.2.2) + 4 * c ∧ TLN s.2 z R y.2.2.2.1
section IXS
variable {s s' : AS} {z : Nat} {ow ow' : Nat → Nat} {R : Nat → Int32} {lo hi : Nat}
theorem es_row {i : Nat} (hK : KS s.1 z) (hw : OWS ow z) (he : ES (IX z ow lo hi) s ow s' ow') (hc : (Nat.blt i 264 && Nat.beq (cOl.getD i 1) 0) = true) (hx : hi < i ∨ i < lo) : s'.2.1 (z + i) = s.2.1 (z + i) ∧ s'.2.2.1 (z + i) = s.2.2.1 (z + i) ∧ s'.2.2.2.1 (z + i) = s.2.2.2.1 (z + i) ∧ s'.2.2.2.2 (z + i) = s.2.2.2.2 (z + i) := by
  rw [Bool.and_eq_true] at hc
  have hi9 : i < 264 := Nat.le_of_ble_eq_true hc.1
  have h0 := hw i hi9 (Nat.eq_of_beq_eq_true hc.2)
  exact (he.2.2 (z + i) (by have := hK.2.1; omega)).2.2.2.2 (nix h0 hi9 hx)
set_option maxRecDepth 20000 in
theorem cO_ways {i : Nat} (h : 77 ≤ i) (h2 : i ≤ 217) : (Nat.blt i 264 && Nat.beq (cOl.getD i 1) 0) = true := by
  have := List.all_eq_true.mp (show (List.range' 77 141).all (fun i => Nat.blt i 264 && Nat.beq (cOl.getD i 1) 0) = true by decide +kernel) i (List.mem_range'_1.mpr ⟨by omega, by omega⟩)
  exact this
theorem wy_ix (h : WY s.2 z R) (hK : KS s.1 z) (hw : OWS ow z) (he : ES (IX z ow lo hi) s ow s' ow') (hx : hi < 77 ∨ 200 < lo) : WY s'.2 z R := by
  have e77 := es_row hK hw he (i := 77) (by decide) (by omega)
  have e139 := es_row hK hw he (i := 139) (by decide) (by omega)
  rcases h with h | ⟨h1, h2, h3⟩
  · left
    rw [e77.1]
    exact h
  · right
    refine ⟨by rw [e77.1]; exact h1, ⟨fun u v hu hv => ?_, fun u v hv hu => by rw [e139.2.1]; exact h2.2 u v hv hu⟩, fun v hv hb u hu => ?_⟩
    · have e := es_row hK hw he (i := 79 + u) (cO_ways (by omega) (by omega)) (by omega)
      rw [e.1, e139.2.1]
      exact h2.1 u v hu hv
    · rw [e77.2.1] at hb
      have q := h3 v hv hb u hu
      have e := es_row hK hw he (i := 141 + v) (cO_ways (by omega) (by omega)) (by omega)
      rw [e.1]
      exact q
theorem prl_ix (h : PRl s.2 z R) (hK : KS s.1 z) (hw : OWS ow z) (he : ES (IX z ow lo hi) s ow s' ow') (hx : hi < 201 ∨ 202 < lo) : PRl s'.2 z R := by
  have e1 := es_row hK hw he (i := 201) (by decide) (by omega)
  have e2 := es_row hK hw he (i := 202) (by decide) (by omega)
  unfold PRl
  rw [e1.1, e2.1]
  exact h
theorem prt_ix {Lp : Nat → Nat} {Lt Lg : Nat} (h : PRt s.2 z R) (hc : CS s.1 s.2 z ow Lp Lt Lg) (hK : KS s.1 z) (hw : OWS ow z) (he : ES (IX z ow lo hi) s ow s' ow') (hx : hi < 201 ∨ 220 < lo) : PRt s'.2 z R := by
  have e1 := es_row hK hw he (i := 201) (by decide) (by omega)
  rcases h with h | ⟨h, h1, h2, a, h3, h4⟩
  · left
    rw [e1.1]
    exact h
  · right
    obtain ⟨-, -, ⟨a', t1, t2, t3, t4, t5, t6⟩, -⟩ := hc
    have ea : a' = a := by
      rw [h3] at t1
      exact (Option.some.inj t1).symm
    subst ea
    have hX : ¬ IX z ow lo hi a' := fun q => by
      unfold IX at q
      rw [onr_r (o := 201) (k := 0) t2 (by omega)] at q
      omega
    have ra := (he.2.2 a' t3.2.1).2.2.2.2 hX
    refine ⟨by rw [e1.1]; exact h, h1, fun i j hij hj => ?_, a', by rw [e1.2.2.2]; exact h3, fun S hS => by rw [ra.1]; exact h4 S hS⟩
    have e := es_row hK hw he (i := 204 + i) (cO_ways (by omega) (by omega)) (by omega)
    rw [e.1]
    exact h2 i j hij hj
theorem bo_ix {a k : Nat} (h : BO s.1 s.2 z ow a k) (he : ES (IX z ow lo hi) s ow s' ow') (hx : hi < 1000) : BO s'.1 s'.2 z ow' a k := by
  obtain ⟨h1, h2, h3, h4, h5, h6, h7, h8⟩ := h
  have q := he.2.2 a h2
  have hX : ¬ IX z ow lo hi a := fun q => by
    unfold IX onr at q
    rw [h7, if_neg (by decide), if_neg (by omega)] at q
    omega
  have r := q.2.2.2.2 hX
  have e1 := he.1
  have e2 := he.2.1
  exact ⟨by rw [e1]; exact h1, by omega, by rw [q.1]; exact h3, by rw [q.2.2.1]; exact h4, by rw [r.1]; exact h5, by rw [r.1]; exact h6, by rw [q.2.2.2.1]; exact h7, h8⟩
theorem bp_ix {a k1 k2 : Nat} (h : BP s.1 s.2 z ow a k1 k2) (he : ES (IX z ow lo hi) s ow s' ow') (hx : hi < 1000) : BP s'.1 s'.2 z ow' a k1 k2 := by
  obtain ⟨h1, h2, h3, h4, h5, h6, h7, h8, a1, a2, h9, h10, h11, h12⟩ := h
  have q := he.2.2 a h2
  have hX : ¬ IX z ow lo hi a := fun q => by
    unfold IX onr at q
    rw [h7, if_neg (by decide), if_neg (by omega)] at q
    omega
  have r := q.2.2.2.2 hX
  have e1 := he.1
  have e2 := he.2.1
  exact ⟨by rw [e1]; exact h1, by omega, by rw [q.1]; exact h3, by rw [q.2.2.1]; exact h4, by rw [r.1]; exact h5, by rw [r.1]; exact h6, by rw [q.2.2.2.1]; exact h7, h8, a1, a2, by rw [q.2.2.1]; exact h9, by rw [q.2.2.1]; exact h10, bo_ix h11 he hx, bo_ix h12 he hx⟩
theorem pb_ix (h : PB s.1 s.2 z ow R) (hK : KS s.1 z) (hw : OWS ow z) (he : ES (IX z ow lo hi) s ow s' ow') (hx : hi < 235 ∨ 235 < lo) (hx2 : hi < 1000) : PB s'.1 s'.2 z ow' R := fun p hp => by
  obtain ⟨a, h1, h2⟩ := h p hp
  have e := es_row hK hw he (i := 235) (by decide) (by omega)
  refine ⟨a, by rw [e.2.2.2]; exact h1, ?_⟩
  rcases h2 with h2 | h2
  · exact Or.inl ⟨h2.1, bo_ix h2.2 he hx2⟩
  · exact Or.inr ⟨h2.1, bp_ix h2.2 he hx2⟩
theorem cs_ix {Lp : Nat → Nat} {Lt Lg : Nat} (h : CS s.1 s.2 z ow Lp Lt Lg) (hK : KS s.1 z) (hw : OWS ow z) (he : ES (IX z ow lo hi) s ow s' ow') (hx : (1 ≤ lo ∧ hi < 77) ∨ (236 ≤ lo)) : CS s'.1 s'.2 z ow' Lp Lt Lg := by
  obtain ⟨⟨h1, h2, h3⟩, ⟨⟨S, V, h4, h5⟩, h6⟩, ⟨a, t1, t2, t3, t4, t5, t6⟩, b, g, g1, g2, g3, g4, g5, g6, g7, g8, g9⟩ := h
  have e1 := he.1
  have e2 := he.2.1
  have qa := he.2.2 a t3.2.1
  have qb := he.2.2 b g3.2.1
  have Xb : ¬ IX z ow lo hi b := fun q => by
    unfold IX at q
    rw [onr_r (o := 0) (k := 0) g2 (by omega)] at q
    omega
  have rb := qb.2.2.2.2 Xb
  have r78 := es_row hK hw he (i := 78) (by decide) (by omega)
  have r140 := es_row hK hw he (i := 140) (by decide) (by omega)
  have r203 := es_row hK hw he (i := 203) (by decide) (by omega)
  have r201 := es_row hK hw he (i := 201) (by decide) (by omega)
  have r0 := es_row hK hw he (i := 0) (by decide) (by omega)
  have l1 := t3.2.1
  have l2 := g3.2.1
  refine ⟨⟨fun c hc => by rw [r78.2.2.2]; exact h1 c hc, fun c hc => by rw [r140.2.2.2]; exact h2 c hc, fun c hc => by rw [r203.2.2.2]; exact h3 c hc⟩, ⟨⟨S, V, tb_ix h4 hK hw (by decide) he (by omega), h5⟩, h6⟩, ⟨a, by rw [r201.2.2.2]; exact t1, by rw [qa.2.2.2.1]; exact t2, ⟨by rw [e1]; exact t3.1, by omega, by rw [qa.1]; exact t3.2.2⟩, by rw [qa.2.1]; exact t4, t5, t6⟩, b, g, by rw [r0.2.2.2]; exact g1, by rw [qb.2.2.2.1]; exact g2, ⟨by rw [e1]; exact g3.1, by omega, by rw [qb.1]; exact g3.2.2⟩, by rw [qb.2.1]; exact g4, g5, g6, by rw [r0.1]; exact g7, g8, fun i hi9 => by rw [rb.1]; exact g9 i hi9⟩
end IXS
/-! 52.step.lean.txt -/
/-! steps of the class over its invariant -/
section CST
variable {s : AS} {z : Nat} {ow : Nat → Nat} {R K : Nat → Int32} {u : Bool} {y : YL} {c N : Nat}
/-- the reference's cells are left -/
def RFR (z : Nat) (s s' : AS) : Prop := ∀ i, 242 ≤ i → i < 264 → s'.2.1 (z + i) = s.2.1 (z + i) ∧ s'.2.2.1 (z + i) = s.2.2.1 (z + i) ∧ s'.2.2.2.1 (z + i) = s.2.2.2.1 (z + i) ∧ s'.2.2.2.2 (z + i) = s.2.2.2.2 (z + i)
theorem RFR.rf : RFR z s s := fun _ _ _ => ⟨rfl, rfl, rfl, rfl⟩
theorem RFR.tr {s1 s2 : AS} (h1 : RFR z s s1) (h2 : RFR z s1 s2) : RFR z s s2 := fun i q1 q2 => ⟨(h2 i q1 q2).1.trans (h1 i q1 q2).1, (h2 i q1 q2).2.1.trans (h1 i q1 q2).2.1, (h2 i q1 q2).2.2.1.trans (h1 i q1 q2).2.2.1, (h2 i q1 q2).2.2.2.trans (h1 i q1 q2).2.2.2⟩
set_option maxRecDepth 20000 in
theorem cO_ref {i : Nat} (h : 242 ≤ i) (h2 : i < 264) : (Nat.blt i 264 && Nat.beq (cOl.getD i 1) 0) = true := List.all_eq_true.mp (show (List.range' 242 22).all (fun i => Nat.blt i 264 && Nat.beq (cOl.getD i 1) 0) = true by decide +kernel) i (List.mem_range'_1.mpr ⟨by omega, by omega⟩)
theorem RFR.ix {s' : AS} {ow' : Nat → Nat} {lo hi : Nat} (hK : KS s.1 z) (hw : OWS ow z) (he : ES (IX z ow lo hi) s ow s' ow') (hx : hi < 242) : RFR z s s' := fun i q1 q2 => es_row hK hw he (cO_ref q1 q2) (by omega)
/-- what touches neither books nor ways nor the rest leaves all -/
theorem ci_fd {lo hi : Nat} {d' : Dt} (h : CI s z ow R K u y c) (hd : FD (IX z ow lo hi) s.2 d') (hx : (1 ≤ lo ∧ hi ≤ 2) ∨ (236 ≤ lo ∧ hi < 1000)) : CI (s.1, d') z ow R K u y c := by
  obtain ⟨hK, hw, h1, h2, h3, h4, h5, h6, h7, h8, h9, h10, h11⟩ := h
  have he : ES (IX z ow lo hi) s ow (s.1, d') ow := FD.es (sh := s.1) (d := s.2) hd
  have r0 := es_row hK hw he (i := 0) (by decide) (by omega)
  exact ⟨hK, hw, bk_ix h1 (Or.inl rfl) hK hw he (by omega), bk_ix h2 (Or.inr rfl) hK hw he (by omega), cs_ix h3 hK hw he (by omega), pb_ix h4 hK hw he (by omega) (by omega), pb_ix h5 hK hw he (by omega) (by omega), wy_ix h6 hK hw he (by omega), prl_ix h7 hK hw he (by omega), prt_ix h8 h3 hK hw he (by omega), by rw [r0.1]; exact h9, h10, h11.1, tln_eq h11.2 (congrFun (es_row hK hw he (i := 201) (by decide) (by omega)).1 7)⟩
theorem ci_lg {d' : Dt} (h : CI s z ow R K u y c) (hd : LG z s.2 d') : CI (s.1, d') z ow R K u y c ∧ RFR z s (s.1, d') := by
  have q := hd.ix h.2.1
  exact ⟨ci_fd h q (by omega), RFR.ix h.1 h.2.1 (FD.es (sh := s.1) (d := s.2) q) (by omega)⟩
/-- a CHANGE begins: R is kept -/
theorem ci_change (hNf : 30 ≤ N) (h : CI s z ow R K u y c) (hN : WN R) (hG : WG R) (hNK : WN K) : Rn (f_X11_change N z s) (fun s' => RFR z s s' ∧ s'.2.1 (z + 77) 5 = 0 ∧ s'.2.1 (z + 201) 4 = 0 ∧ s'.2.1 (z + 201) 7 = 0 ∧ ∃ ow' y', y'.1 = y.1 ∧ CI s' z ow' R R true y' c) := by
  obtain ⟨hK, hw, h1, h2, h3, h4, h5, h6, h7, h8, h9, h10, h11⟩ := id h
  refine rn_mono (k_change hNf hK hw hNK hN hG h1 h2) (fun s' hs => ?_)
  obtain ⟨ow1, q1, s1, e1, x1, x2, rfl, w1, m1⟩ := hs
  have hK1 := KS.es hK e1
  have hw1 := OWS.es hw hK e1
  have f1 := RFR.ix hK hw e1 (by omega)
  have c3 := cs_ix h3 hK hw e1 (by omega)
  have p4 := pb_ix h4 hK hw e1 (by omega) (by omega)
  have o0 := hw1 0 (by decide) (by decide)
  have o77 := hw1 77 (by decide) (by decide)
  have o201 := hw1 201 (by decide) (by decide)
  have d1 : FD (IX z ow1 0 0) s1.2 (wI s1.2 z 13 1) := by
    have := fd_ix (d := s1.2) (k := 13) (v := 1) (i := 0) (by decide) o0
    exact this
  have d2 : FD (IX z ow1 77 77) (wI s1.2 z 13 1) (wI (wI s1.2 z 13 1) (z + 77) 5 0) := fd_ix (by decide) o77
  have d3 : FD (IX z ow1 201 201) (wI (wI s1.2 z 13 1) (z + 77) 5 0) (wI (wI (wI (wI s1.2 z 13 1) (z + 77) 5 0) (z + 201) 4 0) (z + 201) 7 0) := (fd_ix (by decide) o201).tr (fd_ix (by decide) o201)
  have g1 := FD.es (sh := s1.1) (ow := ow1) d1
  have g2 := FD.es (sh := s1.1) (ow := ow1) d2
  have g3 := FD.es (sh := s1.1) (ow := ow1) d3
  have r0 : (wI (wI (wI (wI s1.2 z 13 1) (z + 77) 5 0) (z + 201) 4 0) (z + 201) 7 0).1 (z + 0) = va_up (s1.2.1 (z + 0)) 13 1 := by
    rw [wI_n (by omega), wI_n (by omega), wI_n (by omega)]
    exact wI_s
  have r77 : (wI (wI (wI (wI s1.2 z 13 1) (z + 77) 5 0) (z + 201) 4 0) (z + 201) 7 0).1 (z + 77) 5 = 0 := by
    rw [wI_n (by omega), wI_n (by omega), wI_s, va_up_s]
  have r201 : (wI (wI (wI (wI s1.2 z 13 1) (z + 77) 5 0) (z + 201) 4 0) (z + 201) 7 0).1 (z + 201) 4 = 0 ∧ (wI (wI (wI (wI s1.2 z 13 1) (z + 77) 5 0) (z + 201) 4 0) (z + 201) 7 0).1 (z + 201) 7 = 0 := by
    rw [wI_s, va_up_n (by decide), va_up_s, wI_s, va_up_s]
    exact ⟨rfl, rfl⟩
  have x1 := bk_ix (bk_ix (bk_ix x1 (Or.inr rfl) hK1 hw1 g1 (by omega)) (Or.inr rfl) hK1 hw1 g2 (by omega)) (Or.inr rfl) hK1 hw1 g3 (by omega)
  have x2 := bk_ix (bk_ix (bk_ix x2 (Or.inl rfl) hK1 hw1 g1 (by omega)) (Or.inl rfl) hK1 hw1 g2 (by omega)) (Or.inl rfl) hK1 hw1 g3 (by omega)
  have p4 := pb_ix (pb_ix (pb_ix p4 hK1 hw1 g1 (by omega) (by omega)) hK1 hw1 g2 (by omega) (by omega)) hK1 hw1 g3 (by omega) (by omega)
  have f2 := (RFR.ix hK1 hw1 g1 (by omega)).tr ((RFR.ix (s := (s1.1, wI s1.2 z 13 1)) hK1 hw1 g2 (by omega)).tr (RFR.ix (s := (s1.1, wI (wI s1.2 z 13 1) (z + 77) 5 0)) hK1 hw1 g3 (by omega)))
  refine ⟨f1.tr f2, r77, r201.1, r201.2, ow1, (y.1, q1, y.2.2), rfl, hK1, hw1, x2, x1, ?_, p4, p4, Or.inl r77, Or.inl r201.1, Or.inl r201.2, ?_, ?_, ?_, tln_0 r201.2⟩
  · obtain ⟨⟨k1, k2, k3⟩, ⟨⟨S, V, k4, k5⟩, k6⟩, k7, b, g, b1, b2, b3, b4, b5, b6, b7, b8, b9⟩ := c3
    have k4 := tb_ix (tb_ix (tb_ix k4 hK1 hw1 (by decide) g1 (by omega)) hK1 hw1 (by decide) g2 (by omega)) hK1 hw1 (by decide) g3 (by omega)
    have nb : ∀ i, i < 264 → ow1 (z + i) = 0 → b ≠ z + i := fun i _ h0 e => by
      rw [e, h0] at b2
      omega
    refine ⟨⟨k1, k2, k3⟩, ⟨⟨S, V, k4, k5⟩, k6⟩, k7, b, g, b1, b2, b3, b4, b5, b6, ?_, b8, fun i hi => ?_⟩
    · show (wI (wI (wI (wI s1.2 z 13 1) (z + 77) 5 0) (z + 201) 4 0) (z + 201) 7 0).1 (z + 0) 12 = nI g
      rw [r0, va_up_n (by decide)]
      exact b7
    · show fits .char (.int ((wI (wI (wI (wI s1.2 z 13 1) (z + 77) 5 0) (z + 201) 4 0) (z + 201) 7 0).1 b i)) = true
      rw [wI_n (nb 201 (by decide) o201), wI_n (nb 201 (by decide) o201), wI_n (nb 77 (by decide) o77), wI_n (a := z) (nb 0 (by decide) o0)]
      exact b9 i hi
  · show (wI (wI (wI (wI s1.2 z 13 1) (z + 77) 5 0) (z + 201) 4 0) (z + 201) 7 0).1 (z + 0) 13 = 1
    rw [r0, va_up_s]
  · show s1.1.1.2.2 ≤ 75638 + 2 * (pot y.1 + pot q1 + smN y.2.2.1 4 + y.2.2.2.1 + y.2.2.2.2) + 5 * c
    omega
  · have h11 := h11.1
    show 4 * s1.1.1.2.1 ≤ 4 * (z + 264) + (pot y.1 + pot q1 + smN y.2.2.1 4 + 4 * y.2.2.2.1 + y.2.2.2.2) + 4 * c
    omega
end CST
/-! 53.cross.lean.txt -/
/-! crossings(): class and reference -/
def sp_crossings (R : Nat → Int32) (n : Int32) : Int32 × Option (Nat → Int32) := if n < 1 ∨ 20 < n then (-2, none) else if R 0 + n ≤ 60 then (R 0 + n, some (va_up R 0 (R 0 + n))) else (-3, none)
/-- what a call of the class must come to: o is the document's outcome -/
def KO (z : Nat) (R K : Nat → Int32) (u : Bool) (c : Nat) (o : Int32 × Option (Nat → Int32)) (s : AS) (r : Int32 × AS) : Prop := r.1 = o.1 ∧ RFR z s r.2 ∧ ∃ ow' y', CI r.2 z ow' (o.2.getD R) (if o.2.isSome then R else K) (o.2.isSome || u) y' c
/-- the reference holds R, and keeps K -/
def AG (R0 R : Nat → Int32) : Prop := ∀ k, k < 15642 → R0 k = R k
def RI (d : Dt) (z : Nat) (R K : Nat → Int32) (u : Bool) : Prop := AG (d.1 (z + 243)) R ∧ (u = true → AG (d.1 (z + 244)) K) ∧ d.1 (z + 242) 2 = (if u then 1 else 0) ∧ (∃ g, g ≤ 8000 ∧ d.1 (z + 242) 8 = nI g) ∧ (d.1 (z + 242) 10 = 0 ∨ (d.1 (z + 242) 10 = 1 ∧ ∀ a b, a < nn R 0 → b < nn R 0 → dOK R 268435456 a b (d.1 (z + 247) (60 * a + b))))
/-- the reference touches its own cells alone -/
def MFR (z : Nat) (d d' : Dt) : Prop := d'.2.1 = d.2.1 ∧ d'.2.2.2 = d.2.2.2 ∧ ∀ a, a < z + 242 ∨ z + 264 ≤ a → d'.1 a = d.1 a ∧ d'.2.2.1 a = d.2.2.1 a
def RO (z : Nat) (R K : Nat → Int32) (u : Bool) (o : Int32 × Option (Nat → Int32)) (d : Dt) (r : Int32 × Dt) : Prop := r.1 = o.1 ∧ MFR z d r.2 ∧ RI r.2 z (o.2.getD R) (if o.2.isSome then R else K) (o.2.isSome || u)
section CR
variable {s : AS} {sh : Sh} {d : Dt} {z : Nat} {ow : Nat → Nat} {R K : Nat → Int32} {u : Bool} {y : YL} {c N : Nat}
theorem MFR.rf : MFR z d d := ⟨rfl, rfl, fun _ _ => ⟨rfl, rfl⟩⟩
theorem MFR.tr {d1 d2 : Dt} (h1 : MFR z d d1) (h2 : MFR z d1 d2) : MFR z d d2 := ⟨h2.1.trans h1.1, h2.2.1.trans h1.2.1, fun a q => ⟨(h2.2.2 a q).1.trans (h1.2.2 a q).1, (h2.2.2 a q).2.trans (h1.2.2 a q).2⟩⟩
theorem MFR.wI {i k : Nat} {v : Int32} (h : 242 ≤ i) (h2 : i < 264) : MFR z d (wI d (z + i) k v) := ⟨rfl, rfl, fun a q => ⟨wI_n (by omega), rfl⟩⟩
theorem MFR.row {i : Nat} {f : Nat → Int32} (h : 242 ≤ i) (h2 : i < 264) : MFR z d (va_up d.1 (z + i) f, d.2) := ⟨rfl, rfl, fun a q => ⟨va_up_n (by omega), rfl⟩⟩
theorem RG.mfr {d' : Dt} (h : RG z d d') : MFR z d d' := ⟨by rw [h.1], by rw [h.1], fun a q => ⟨h.2.1 a (by omega) (by omega), by rw [h.1]⟩⟩
theorem ri_rg {d' : Dt} (h : RI d z R K u) (hd : RG z d d') : RI d' z R K u := by
  obtain ⟨h1, h2, h3, ⟨g, h4, h5⟩, h6⟩ := h
  refine ⟨?_, ?_, ?_, ⟨g, h4, ?_⟩, ?_⟩
  · rw [hd.2.1 (z + 243) (by omega) (by omega)]
    exact h1
  · rw [hd.2.1 (z + 244) (by omega) (by omega)]
    exact h2
  · rw [hd.2.2 2 (by omega) (by omega) (by omega)]
    exact h3
  · rw [hd.2.2 8 (by omega) (by omega) (by omega)]
    exact h5
  · rw [hd.2.2 10 (by omega) (by omega) (by omega), hd.2.1 (z + 247) (by omega) (by omega)]
    exact h6
/-- behind keeps(), with the ways forgotten or not -/
theorem ri_keeps (h : RI d z R K u) (hK : KS sh z) (hN : 15642 < N) : Rn (f_X12_keeps N sh (z + 242) d) (fun d' => RI d' z R R true ∧ MFR z d d') := by
  obtain ⟨h1, h2, h3, ⟨g, h4, h5⟩, h6⟩ := h
  refine ⟨_, m_keeps hK hN rfl, ⟨?_, ?_, ?_, ⟨g, h4, ?_⟩, ?_⟩, (MFR.row (by decide) (by decide)).tr (MFR.wI (by decide) (by decide))⟩
  · rw [wI_n (by omega)]
    show AG (va_up d.1 (z + 244) _ (z + 243)) R
    rw [va_up_n (by omega)]
    exact h1
  · intro _ k hk
    rw [wI_n (by omega)]
    show va_up d.1 (z + 244) _ (z + 244) k = R k
    rw [va_up_s, if_pos hk]
    exact h1 k hk
  · rw [wI_s, va_up_s]
    rfl
  · rw [wI_s, va_up_n (by decide)]
    show va_up d.1 (z + 244) _ (z + 242) 8 = nI g
    rw [va_up_n (by omega)]
    exact h5
  · rw [wI_s, va_up_n (by decide), wI_n (by omega)]
    show va_up d.1 (z + 244) _ (z + 242) 10 = 0 ∨ (va_up d.1 (z + 244) _ (z + 242) 10 = 1 ∧ ∀ a b, a < nn R 0 → b < nn R 0 → dOK R 268435456 a b (va_up d.1 (z + 244) _ (z + 247) (60 * a + b)))
    rw [va_up_n (by omega), va_up_n (by omega)]
    exact h6
/-- the ways are forgotten: any R may stand there -/
theorem ri_put {R' : Nat → Int32} {d' : Dt} (h : RI d z R K u) (e0 : d'.1 (z + 242) = va_up (d.1 (z + 242)) 10 0) (e1 : AG (d'.1 (z + 243)) R') (e2 : d'.1 (z + 244) = d.1 (z + 244)) : RI d' z R' K u := by
  obtain ⟨h1, h2, h3, ⟨g, h4, h5⟩, h6⟩ := h
  refine ⟨e1, by rw [e2]; exact h2, ?_, ⟨g, h4, ?_⟩, Or.inl ?_⟩
  · rw [e0, va_up_n (by decide)]
    exact h3
  · rw [e0, va_up_n (by decide)]
    exact h5
  · rw [e0, va_up_s]
theorem in_1_20 {n : Int32} : (if n < 1 ∨ 20 < n then (0 : Int32) else 1) = 0 ↔ (n < 1 ∨ 20 < n) := by
  by_cases h : n < 1 ∨ 20 < n
  · rw [if_pos h]
    exact ⟨fun _ => h, fun _ => rfl⟩
  · rw [if_neg h]
    exact ⟨fun q => absurd q (by decide), fun q => absurd q h⟩
theorem m_crossings {n : Int32} (hN : 15642 < N) (hK : KS sh z) (h : RI d z R K u) : Rn (f_X12_crossings N sh (z + 242) n d) (RO z R K u (sp_crossings R n) d) := by
  have e0 : d.1 (z + 243) 0 = R 0 := h.1 0 (by decide)
  unfold f_X12_crossings
  refine rn_t (ks_o hK 242 12 rfl) ?_
  refine rn_eq m_in ?_
  unfold sp_crossings
  refine rn_ite (fun h1 => ?_) (fun h1 => ?_)
  · have h1 : ¬ (n < 1 ∨ 20 < n) := fun q => h1 (in_1_20.mpr q)
    rw [if_neg h1]
    refine rd hK (R := d.1 (z + 243)) rfl 0 rfl (by decide) ?_
    rw [e0]
    refine rn_ite (fun h2 => ?_) (fun h2 => ?_)
    · rw [if_pos h2]
      refine rn_bind (ri_keeps h hK hN) (fun d1 hd => ?_)
      obtain ⟨x1, x2⟩ := hd
      refine r_pI hK (i := 242) (c := 12) rfl ?_
      refine r_gP hK 242 12 0 243 rfl (by decide) ?_
      have ha := ks_a hK 243 0 15642 rfl
      refine rn_eq (q_aT ha 0 rfl (by decide) (by decide)) ?_
      refine rn_eq (q_sI ha 0 rfl (by decide) (by decide)) ?_
      refine rd hK (R := _) rfl 0 rfl (by decide) ?_
      refine rn_eq (m_says hK) ?_
      have e1 : d1.1 (z + 243) 0 = R 0 := x1.1 0 (by decide)
      have v1 : (wI d1 (z + 242) 10 0).1 (z + 243) 0 = R 0 := by
        rw [wI_n (by omega)]
        exact e1
      have v2 : (wI (wI d1 (z + 242) 10 0) (z + 243) 0 ((wI d1 (z + 242) 10 0).1 (z + 243) 0 + n)).1 (z + 243) 0 = R 0 + n := by
        rw [wI_s, va_up_s, v1]
      refine rn_some ⟨v2, ?_, ?_⟩
      · exact x2.tr ((MFR.wI (by decide) (by decide)).tr ((MFR.wI (by decide) (by decide)).tr (MFR.wI (by decide) (by decide))))
      · refine ri_rg ?_ (RG.w242 (Or.inl rfl))
        refine ri_put (R' := va_up R 0 (R 0 + n)) x1 ?_ (fun k hk => ?_) ?_
        · rw [wI_n (by omega), wI_s]
        · rw [wI_s, v1]
          unfold va_up
          by_cases ek : k = 0
          · rw [if_pos ek, if_pos ek]
          · rw [if_neg ek, if_neg ek, wI_n (by omega)]
            exact x1.1 k hk
        · rw [wI_n (by omega), wI_n (by omega)]
    · rw [if_neg h2]
      refine rn_bind (m_refuses hK) (fun r hr => ?_)
      exact rn_some ⟨hr.1, hr.2.mfr, ri_rg h hr.2⟩
  · have h1 : n < 1 ∨ 20 < n := in_1_20.mp (Decidable.of_not_not h1)
    rw [if_pos h1]
    refine rn_bind (m_refuses hK) (fun r hr => ?_)
    exact rn_some ⟨hr.1, hr.2.mfr, ri_rg h hr.2⟩
/-- another number of crossings -/
theorem bk_cross {b : Nat} {q : BL} {v : Int32} (hb : bck b) (hK : KS s.1 z) (hw : OWS ow z) (h : BK s.1 s.2 z ow b R q) : BK s.1 (wI s.2 (z + b) 0 v) z ow b (va_up R 0 v) q := by
  obtain ⟨h0, h1, h2, h3, h4, h5, h6, h7⟩ := h
  have hwb := bck_w hb hw
  have ht := bck_t hb
  have he : ES (IX z ow b b) s ow (s.1, wI s.2 (z + b) 0 v) ow := FD.es (sh := s.1) (d := s.2) (fd_ix hwb.2 hwb.1)
  have n1 : ∀ k, k ≠ 0 → va_up R 0 v k = R k := fun k hk => va_up_n hk
  have nv : ∀ k, k ≠ 0 → nn (va_up R 0 v) k = nn R k := fun k hk => by unfold nn; rw [n1 k hk]
  have eS : vS (va_up R 0 v) = vS R := by
    funext c i
    exact n1 _ (by omega)
  have eG : vG (va_up R 0 v) = vG R := by
    funext c i
    exact n1 _ (by omega)
  have eP : vP (va_up R 0 v) = vP R := by
    funext c i
    unfold vP
    simp only [n1 _ (show 9426 + 13 * i + 6 ≠ 0 by omega), n1 _ (show 9426 + 13 * i + 7 ≠ 0 by omega), n1 _ (show 9426 + 13 * i + 8 ≠ 0 by omega), n1 _ (show 9426 + 13 * i + 9 ≠ 0 by omega), n1 _ (show 9426 + 13 * i + 10 ≠ 0 by omega), n1 _ (show 9426 + 13 * i + 1 ≠ 0 by omega), n1 _ (show 9426 + 13 * i + 2 ≠ 0 by omega), n1 _ (show 9426 + 13 * i ≠ 0 by omega), n1 _ (show 9426 + 13 * i + 11 ≠ 0 by omega), n1 _ (show 9426 + 13 * i + 12 ≠ 0 by omega)]
  have eD : vD (va_up R 0 v) = vD R := by
    funext c i
    unfold vD
    rw [nv (9642 + 3 * i) (by omega), n1 (9642 + 3 * i) (by omega), n1 (9642 + 3 * i + 1) (by omega), n1 (9642 + 3 * i + 2) (by omega), n1 (16 + 9 * nn R (9642 + 3 * i) + 7) (by omega), n1 (16 + 9 * nn R (9642 + 3 * i) + 8) (by omega)]
  have eC : vC (va_up R 0 v) = vC R := by
    funext k
    unfold vC
    rw [n1 (5426 + k) (by omega), n1 (1426 + k) (by omega)]
  have eI : inC (va_up R 0 v) = inC R := by
    funext k
    unfold inC
    rw [nv 2 (by decide)]
    congr 1
  unfold BK
  rw [eS, eG, eP, eD, eC, eI, nv 1 (by decide), nv 2 (by decide), nv 3 (by decide), nv 4 (by decide)]
  refine ⟨?_, tb_ix h1 hK hw ht.1 he (by omega), tb_ix h2 hK hw ht.2.1 he (by omega), tb_ix h3 hK hw ht.2.2.1 he (by omega), tb_ix h4 hK hw ht.2.2.2 he (by omega), h5, h6, h7⟩
  rw [wI_s, va_up_s, va_up_s]
theorem nn_cross {v : Int32} {k : Nat} (hk : k ≠ 0) : nn (va_up R 0 v) k = nn R k := by
  unfold nn
  rw [va_up_n hk]
theorem pb_cross {v : Int32} (h : PB s.1 s.2 z ow R) : PB s.1 s.2 z ow (va_up R 0 v) := fun p hp => by
  rw [nn_cross (by decide)] at hp
  obtain ⟨a, h1, h2⟩ := h p hp
  refine ⟨a, h1, ?_⟩
  rw [nn_cross (k := 9426 + 13 * p) (by omega), nn_cross (k := 9426 + 13 * p + 3) (by omega), nn_cross (k := 9426 + 13 * p + 4) (by omega), nn_cross (k := 9426 + 13 * nn R (9426 + 13 * p + 3)) (by omega), nn_cross (k := 9426 + 13 * nn R (9426 + 13 * p + 4)) (by omega)]
  exact h2
/-- a call that is refused or only answers -/
theorem ko_lg {v : Int32} {r : Int32 × Dt} {o : Int32 × Option (Nat → Int32)} (h : CI s z ow R K u y c) (hr : r.1 = v ∧ LG z s.2 r.2) (ho : o = (v, none)) : KO z R K u c o s (r.1, (s.1, r.2)) := by
  subst ho
  have q := ci_lg h hr.2
  exact ⟨hr.1, q.2, ow, y, q.1⟩
theorem k_crossings {n : Int32} (hNf : 30 ≤ N) (h : CI s z ow R K u y c) (hR : WF R) (hKF : WF K) : Rn (f_X11_crossings N z n s) (KO z R K u c (sp_crossings R n) s) := by
  have hK := h.1
  unfold f_X11_crossings
  refine rn_t (ks_o hK 0 11 rfl) ?_
  unfold sp_crossings
  refine rn_ite (fun h1 => ?_) (fun h1 => ?_)
  · rw [if_pos (Or.inl h1)]
    unfold f_X11_crossings_11
    refine rn_bind (k_refuse hK) (fun r hr => rn_some ?_)
    exact ko_lg h hr rfl
  · refine rn_ite (fun h2 => ?_) (fun h2 => ?_)
    · have h3 : ¬ (n < 1 ∨ 20 < n) := fun q => q.elim h1 (fun q => Int32.not_le.mpr q h2)
      rw [if_neg h3]
      refine r_gP hK 0 11 1 3 rfl (by decide) ?_
      refine r_gI hK (i := 3) (c := 1) rfl ?_
      rw [h.2.2.1.1]
      refine rn_ite (fun h4 => ?_) (fun h4 => ?_)
      · rw [if_pos h4]
        refine rn_bind (ci_change hNf h hR.1 hR.2.1 hKF.1) (fun s1 hs => ?_)
        obtain ⟨f1, g1, g2, g3, ow1, y1, -, c1⟩ := hs
        have hK1 := c1.1
        unfold f_X11_crossings_43
        refine r_gP hK1 0 11 1 3 rfl (by decide) ?_
        refine r_gI hK1 (i := 3) (c := 1) rfl ?_
        refine r_pI hK1 (i := 3) (c := 1) rfl ?_
        refine r_gP hK1 0 11 1 3 rfl (by decide) ?_
        refine r_gI hK1 (i := 3) (c := 1) rfl ?_
        have e0 : s1.2.1 (z + 3) 0 = R 0 := c1.2.2.1.1
        rw [e0]
        refine rn_bind (k_answer hK1) (fun r hr => rn_some ?_)
        obtain ⟨hK9, hw1, b1, b2, b3, b4, b5, b6, b7, b8, b9, b10, b11⟩ := c1
        have o3 := hw1 3 (by decide) (by decide)
        have he : ES (IX z ow1 3 3) s1 ow1 (s1.1, wI s1.2 (z + 3) 0 (R 0 + n)) ow1 := FD.es (sh := s1.1) (d := s1.2) (fd_ix (by decide) o3)
        have c2 : CI (s1.1, wI s1.2 (z + 3) 0 (R 0 + n)) z ow1 (va_up R 0 (R 0 + n)) R true y1 c := by
          have r0 := es_row hK1 hw1 he (i := 0) (by decide) (by omega)
          have r77 := es_row hK1 hw1 he (i := 77) (by decide) (by omega)
          have r201 := es_row hK1 hw1 he (i := 201) (by decide) (by omega)
          exact ⟨hK1, hw1, bk_cross (Or.inl rfl) hK1 hw1 b1, bk_ix b2 (Or.inr rfl) hK1 hw1 he (by omega), cs_ix b3 hK1 hw1 he (by omega), pb_cross (pb_ix b4 hK1 hw1 he (by omega) (by omega)), pb_ix b5 hK1 hw1 he (by omega) (by omega), Or.inl (by rw [r77.1]; exact g1), Or.inl (by rw [r201.1]; exact g2), Or.inl (by rw [r201.1]; exact g3), by rw [r0.1]; exact b9, b10, b11.1, tln_0 (by rw [r201.1]; exact g3)⟩
        have q := ci_lg c2 hr.2
        have f2 := RFR.ix hK1 hw1 he (by omega)
        refine ⟨?_, (f1.tr f2).tr q.2, ow1, y1, q.1⟩
        rw [hr.1, wI_s, va_up_s]
      · rw [if_neg h4]
        refine rn_bind (k_refuse hK) (fun r hr => rn_some ?_)
        exact ko_lg h hr rfl
    · rw [if_pos (Or.inr (Int32.not_le.mp h2))]
      unfold f_X11_crossings_11
      refine rn_bind (k_refuse hK) (fun r hr => rn_some ?_)
      exact ko_lg h hr rfl
end CR
/-! 54.turn.lean.txt -/
/-! oneWay(), shut(), sides(): one cell of a STREET changes -/
section TU
variable {s : AS} {sh : Sh} {d : Dt} {z : Nat} {ow : Nat → Nat} {R R' K : Nat → Int32} {u : Bool} {y : YL} {c N : Nat}
theorem tb_congr {o nc S : Nat} {V V' : Nat → Nat → Int32} {L : Nat → Nat} (h : TB sh d z ow o nc S V L) (hv : ∀ c i, c < nc → i < S → V' c i = V c i) : TB sh d z ow o nc S V' L := ⟨h.1, fun c hc => by
  obtain ⟨a, h1, h2, h3, h4, h5, h6, h7⟩ := h.2 c hc
  exact ⟨a, h1, h2, h3, h4, h5, h6, fun i hi => (h7 i hi).trans (hv c i hc hi).symm⟩⟩
theorem pb_congr (h : PB sh d z ow R) (h3 : R' 3 = R 3) (hk : ∀ k, 9426 ≤ k → R' k = R k) : PB sh d z ow R' := fun p hp => by
  have e : ∀ k, 9426 ≤ k → nn R' k = nn R k := fun k q => by unfold nn; rw [hk k q]
  have e3 : nn R' 3 = nn R 3 := by unfold nn; rw [h3]
  rw [e3] at hp
  obtain ⟨a, h1, h2⟩ := h p hp
  refine ⟨a, h1, ?_⟩
  rw [e _ (by omega), e (9426 + 13 * p + 3) (by omega), e (9426 + 13 * p + 4) (by omega), e _ (by omega), e _ (by omega)]
  exact h2
/-- behind ci_change: the books of now hold another R -/
theorem ci_new {d' : Dt} (h : CI s z ow R K true y c) (g1 : s.2.1 (z + 77) 5 = 0) (g2 : s.2.1 (z + 201) 4 = 0) (g3 : s.2.1 (z + 201) 7 = 0) (hd : FD (IX z ow 3 39) s.2 d') (hb : BK s.1 d' z ow 3 R' y.1) (hp : PB s.1 s.2 z ow R') : CI (s.1, d') z ow R' K true y c ∧ RFR z s (s.1, d') := by
  obtain ⟨hK, hw, b1, b2, b3, b4, b5, b6, b7, b8, b9, b10, b11⟩ := h
  have he : ES (IX z ow 3 39) s ow (s.1, d') ow := FD.es (sh := s.1) (d := s.2) hd
  have r0 := es_row hK hw he (i := 0) (by decide) (by omega)
  have r77 := es_row hK hw he (i := 77) (by decide) (by omega)
  have r201 := es_row hK hw he (i := 201) (by decide) (by omega)
  exact ⟨⟨hK, hw, hb, bk_ix b2 (Or.inr rfl) hK hw he (by omega), cs_ix b3 hK hw he (by omega), pb_ix hp hK hw he (by omega) (by omega), pb_ix b5 hK hw he (by omega) (by omega), Or.inl (by rw [r77.1]; exact g1), Or.inl (by rw [r201.1]; exact g2), Or.inl (by rw [r201.1]; exact g3), by rw [r0.1]; exact b9, b10, b11.1, tln_0 (by rw [r201.1]; exact g3)⟩, RFR.ix hK hw he (by omega)⟩
theorem nn_up {j k : Nat} {v : Int32} (h : k ≠ j) : nn (va_up R j v) k = nn R k := by
  unfold nn
  rw [va_up_n h]
/-- a cell of a STREET, but not its ends -/
theorem bk_upS {b i k : Nat} {q : BL} {v : Int32} {d' : Dt} (hb : bck b) (hK : KS sh z) (hw : OWS ow z) (hN : WN R) (h : BK sh d z ow b R q) (hi : i < nn R 1) (hk : k < 7) (ht : TB sh d' z ow (b + 1) 9 (nn R 1) (fun c' i' => if c' = k ∧ i' = i then v else vS R c' i') q.1) (hf : FD (TX z ow (b + 1)) d d') : BK sh d' z ow b (va_up R (16 + 9 * i + k) v) q := by
  obtain ⟨h0, h1, h2, h3, h4, h5, h6, h7⟩ := h
  have hwb := bck_w hb hw
  have hts := bck_t hb
  have n1 := hN.2.1.2
  have hf2 : FD (IX z ow (b + 1) (b + 2)) d d' := hf.mono (fun a ha => tx_ix hts.1 hw ha)
  have he : ES (IX z ow (b + 1) (b + 2)) (sh, d) ow (sh, d') ow := hf2.es
  have r0 : d'.1 (z + b) = d.1 (z + b) := (hf2 (z + b) (nix hwb.1 hwb.2 (by omega))).1
  have e : ∀ j, j ≠ 16 + 9 * i + k → va_up R (16 + 9 * i + k) v j = R j := fun j hj => va_up_n hj
  have t2 : TB sh d' z ow (b + 12) 3 (nn R 2) (vG R) q.2.1 := tb_ix (s := (sh, d)) h2 hK hw hts.2.1 he (by omega)
  have t3 : TB sh d' z ow (b + 17) 9 (nn R 3) (vP R) q.2.2.1 := tb_ix (s := (sh, d)) h3 hK hw hts.2.2.1 he (by omega)
  have t4 : TB sh d' z ow (b + 28) 4 (nn R 4) (vD R) q.2.2.2.1 := tb_ix (s := (sh, d)) h4 hK hw hts.2.2.2 he (by omega)
  have t5 : CE sh d' z ow b q.2.2.2.2 (inC R) (vC R) := ce_ix (s := (sh, d)) h5 hK hwb.1 hwb.2 he (by omega)
  have eI : ∀ x, inC (va_up R (16 + 9 * i + k) v) x → inC R x := fun x hx => by
    obtain ⟨g, hh, q1, q2, q3⟩ := hx
    rw [nn_up (by omega)] at q1 q2
    exact ⟨g, hh, q1, q2, q3⟩
  refine ⟨?_, ?_, ?_, ?_, ?_, ?_, ?_, h7⟩
  · rw [r0, e 0 (by omega)]
    exact h0
  · rw [nn_up (by omega)]
    refine tb_congr ht (fun c' i' hc hi' => ?_)
    show va_up R (16 + 9 * i + k) v (16 + 9 * i' + c') = _
    by_cases q : c' = k ∧ i' = i
    · rw [if_pos q, q.1, q.2, va_up_s]
    · rw [if_neg q, e _ (by omega)]
      rfl
  · rw [nn_up (by omega)]
    exact tb_congr t2 (fun c' i' hc hi' => e _ (by omega))
  · rw [nn_up (by omega)]
    refine tb_congr t3 (fun c' i' hc hi' => ?_)
    unfold vP
    simp only [e (9426 + 13 * i' + 6) (by omega), e (9426 + 13 * i' + 7) (by omega), e (9426 + 13 * i' + 8) (by omega), e (9426 + 13 * i' + 9) (by omega), e (9426 + 13 * i' + 10) (by omega), e (9426 + 13 * i' + 1) (by omega), e (9426 + 13 * i' + 2) (by omega), e (9426 + 13 * i') (by omega), e (9426 + 13 * i' + 11) (by omega), e (9426 + 13 * i' + 12) (by omega)]
  · rw [nn_up (by omega)]
    refine tb_congr t4 (fun c' i' hc hi' => ?_)
    unfold vD
    rw [nn_up (k := 9642 + 3 * i') (by omega), e (9642 + 3 * i') (by omega), e (9642 + 3 * i' + 1) (by omega), e (9642 + 3 * i' + 2) (by omega), e (16 + 9 * nn R (9642 + 3 * i') + 7) (by omega), e (16 + 9 * nn R (9642 + 3 * i') + 8) (by omega)]
  · obtain ⟨a, z1, z2, z3, z4, z5, z6⟩ := t5
    refine ⟨a, z1, z2, z3, z4, z5, fun x hx => ?_⟩
    have r := z6 x (eI x hx)
    refine ⟨r.1, r.2.trans ?_⟩
    unfold vC
    rw [e (5426 + x) (by omega), e (1426 + x) (by omega)]
  · rw [nn_up (by omega)]
    exact h6
/-- a STREET's number, or BAD -/
def stN (R : Nat → Int32) (x : Int32) : Prop := x < 0 ∨ nI (nn R 1) ≤ x
def sp_turn (R : Nat → Int32) (x : Int32) (k : Nat) (v : Int32) : Int32 × Option (Nat → Int32) := if x < 0 ∨ nI (nn R 1) ≤ x then (-2, none) else (R (16 + 9 * x.toNatClampNeg + k), some (va_up R (16 + 9 * x.toNatClampNeg + k) v))
theorem st_of {x : Int32} {n : Nat} (hn : n < 2 ^ 31) (h : ¬ (x < 0 ∨ nI n ≤ x)) : ∃ i, i < n ∧ x = nI i ∧ x.toNatClampNeg = i := by
  rcases pk_ix x hn with q | q | ⟨j, hj, e⟩
  · exact absurd (Or.inl q) h
  · exact absurd (Or.inr q) h
  · exact ⟨j, hj, e, by rw [e]; exact nI_clamp (by omega)⟩
theorem ite01 {p : Prop} {q : Decidable p} : (@ite Int32 p q 0 1 = 0) ↔ p := by
  by_cases h : p
  · rw [if_pos h]
    exact ⟨fun _ => h, fun _ => rfl⟩
  · rw [if_neg h]
    exact ⟨fun q => absurd q (by decide), fun q => absurd q h⟩
theorem k_becomeF {x v : Int32} {k : Nat} (hNf : 30 ≤ N) (hk : k < 7) (h : CI s z ow R K u y c) (hR : WF R) (hKF : WF K) : Rn (f_X11_become N z x (nI k) v s) (fun r => KO z R K u c (sp_turn R x k v) s r ∧ ((sp_turn R x k v).2.isSome = true → r.2.2.1 (z + 77) 5 = 0 ∧ r.2.2.1 (z + 201) 4 = 0 ∧ r.2.2.1 (z + 201) 7 = 0)) := by
  have hK := h.1
  have n1 := hR.1.2.1.2
  have ht4 : tck 4 9 = true := by decide
  unfold f_X11_become
  refine rn_t (ks_o hK 0 11 rfl) ?_
  refine r_gP hK 0 11 1 3 rfl (by decide) ?_
  refine r_gP hK 3 1 1 4 rfl (by decide) ?_
  have hB : BK s.1 s.2 z ow 3 R y.1 := h.2.2.1
  refine rn_eq (tb_has (o := 4) (nc := 9) hK ht4 hB.2.1) ?_
  unfold sp_turn
  refine rn_ite (fun h1 => ?_) (fun h1 => ?_)
  · have h2 : ¬ (x < 0 ∨ nI (nn R 1) ≤ x) := fun q => h1 (ite01.mpr q)
    rw [if_neg h2]
    obtain ⟨i, hi, rfl, e2⟩ := st_of (by omega) h2
    rw [e2]
    refine r_gP hK 0 11 1 3 rfl (by decide) ?_
    refine r_gP hK 3 1 1 4 rfl (by decide) ?_
    refine rn_eq (tb_get (o := 4) (nc := 9) hK ht4 hB.2.1 rfl hi rfl (by omega)) ?_
    refine rn_bind (ci_change hNf h hR.1 hR.2.1 hKF.1) (fun s1 hs => ?_)
    obtain ⟨f1, g1, g2, g3, ow1, y1, -, c1⟩ := hs
    have hK1 := c1.1
    have hw1 := c1.2.1
    have hB1 : BK s1.1 s1.2 z ow1 3 R y1.1 := c1.2.2.1
    unfold f_X11_become_39
    refine r_gP hK1 0 11 1 3 rfl (by decide) ?_
    refine r_gP hK1 3 1 1 4 rfl (by decide) ?_
    refine rn_bind (tb_put (o := 4) (nc := 9) hK1 hw1 ht4 hB1.2.1 rfl hi rfl (by omega)) (fun d1 hd => ?_)
    refine rn_bind (k_answer hK1) (fun r hr => rn_some ?_)
    have hb := bk_upS (Or.inl rfl) hK1 hw1 hR.1 hB1 hi hk hd.1 hd.2
    have q := ci_new c1 g1 g2 g3 (hd.2.mono (fun a ha => ix_mono (tx_ix ht4 hw1 ha) (by omega) (by omega))) hb (pb_congr c1.2.2.2.2.2.1 (va_up_n (by omega)) (fun j hj => va_up_n (by omega)))
    have q2 := ci_lg q.1 hr.2
    have hix := hd.2.mono (fun a ha => tx_ix ht4 hw1 ha)
    have e77 : r.2.1 (z + 77) = s1.2.1 (z + 77) := by
      rw [hr.2.2 (z + 77) (by omega) (by omega)]
      exact (hix (z + 77) (nix (hw1 77 (by decide) (by decide)) (by decide) (by omega))).1
    have e201 : r.2.1 (z + 201) = s1.2.1 (z + 201) := by
      rw [hr.2.2 (z + 201) (by omega) (by omega)]
      exact (hix (z + 201) (nix (hw1 201 (by decide) (by decide)) (by decide) (by omega))).1
    refine ⟨⟨hr.1, (f1.tr q.2).tr q2.2, ow1, y1, q2.1⟩, fun _ => ⟨?_, ?_, ?_⟩⟩
    · show r.2.1 (z + 77) 5 = 0
      rw [e77]
      exact g1
    · show r.2.1 (z + 201) 4 = 0
      rw [e201]
      exact g2
    · show r.2.1 (z + 201) 7 = 0
      rw [e201]
      exact g3
  · have h2 : x < 0 ∨ nI (nn R 1) ≤ x := ite01.mp (Decidable.of_not_not h1)
    rw [if_pos h2]
    refine rn_bind (k_refuse hK) (fun r hr => rn_some ?_)
    exact ⟨ko_lg h hr rfl, fun q => absurd q (by decide)⟩
theorem k_become {x v : Int32} {k : Nat} (hNf : 30 ≤ N) (hk : k < 7) (h : CI s z ow R K u y c) (hR : WF R) (hKF : WF K) : Rn (f_X11_become N z x (nI k) v s) (KO z R K u c (sp_turn R x k v) s) := rn_mono (k_becomeF hNf hk h hR hKF) (fun _ q => q.1)
theorem k_oneWay {x b : Int32} (hNf : 30 ≤ N) (h : CI s z ow R K u y c) (hR : WF R) (hKF : WF K) : Rn (f_X11_oneWay N z x b s) (KO z R K u c (sp_turn R x 5 (if b = 0 then 0 else 1)) s) := by
  unfold f_X11_oneWay
  refine rn_t (ks_o h.1 0 11 rfl) ?_
  refine rn_ite (fun h1 => ?_) (fun h1 => ?_)
  · rw [if_pos h1]
    exact rn_bind (k_become hNf (k := 5) (by decide) h hR hKF) (fun r hr => rn_some hr)
  · rw [if_neg h1]
    exact rn_bind (k_become hNf (k := 5) (by decide) h hR hKF) (fun r hr => rn_some hr)
theorem k_shut {x b : Int32} (hNf : 30 ≤ N) (h : CI s z ow R K u y c) (hR : WF R) (hKF : WF K) : Rn (f_X11_shut N z x b s) (KO z R K u c (sp_turn R x 4 (if b = 0 then 0 else 1)) s) := by
  unfold f_X11_shut
  refine rn_t (ks_o h.1 0 11 rfl) ?_
  refine rn_ite (fun h1 => ?_) (fun h1 => ?_)
  · rw [if_pos h1]
    exact rn_bind (k_become hNf (k := 4) (by decide) h hR hKF) (fun r hr => rn_some hr)
  · rw [if_neg h1]
    exact rn_bind (k_become hNf (k := 4) (by decide) h hR hKF) (fun r hr => rn_some hr)
end TU
/-! 55.turn2.lean.txt -/
section T2
variable {s : AS} {sh : Sh} {d : Dt} {z : Nat} {ow : Nat → Nat} {R R' K : Nat → Int32} {u : Bool} {y : YL} {c N : Nat}
theorem ri_nn (h : RI d z R K u) {k : Nat} (hk : k < 15642) : nn (d.1 (z + 243)) k = nn R k := by
  unfold nn
  rw [h.1 k hk]
theorem ri_isCrossing {v : Int32} (hK : KS sh z) (h : RI d z R K u) (hN : WN R) : f_X12_isCrossing N sh (z + 242) v d = some (if v < 0 ∨ nI (nn R 0) ≤ v then 0 else 1) := by
  have e := ri_nn h (k := 0) (by decide)
  have b := hN.1.2
  rw [m_isCrossing hK rfl (by rw [e, h.1 0 (by decide)]; exact hN.1.1) (by omega), e]
theorem ri_isStreet {v : Int32} (hK : KS sh z) (h : RI d z R K u) (hN : WN R) : f_X12_isStreet N sh (z + 242) v d = some (if v < 0 ∨ nI (nn R 1) ≤ v then 0 else 1) := by
  have e := ri_nn h (k := 1) (by decide)
  have b := hN.2.1.2
  rw [m_isStreet hK rfl (by rw [e, h.1 1 (by decide)]; exact hN.2.1.1) (by omega), e]
theorem ri_isGauge {v : Int32} (hK : KS sh z) (h : RI d z R K u) (hN : WN R) : f_X12_isGauge N sh (z + 242) v d = some (if v < 0 ∨ nI (nn R 2) ≤ v then 0 else 1) := by
  have e := ri_nn h (k := 2) (by decide)
  have b := hN.2.2.1.2
  rw [m_isGauge hK rfl (by rw [e, h.1 2 (by decide)]; exact hN.2.2.1.1) (by omega), e]
theorem ri_isPlough {v : Int32} (hK : KS sh z) (h : RI d z R K u) (hN : WN R) : f_X12_isPlough N sh (z + 242) v d = some (if v < 0 ∨ nI (nn R 3) ≤ v then 0 else 1) := by
  have e := ri_nn h (k := 3) (by decide)
  have b := hN.2.2.2.1.2
  rw [m_isPlough hK rfl (by rw [e, h.1 3 (by decide)]; exact hN.2.2.2.1.1) (by omega), e]
theorem ro_refuses {v : Int32} {o : Int32 × Option (Nat → Int32)} (hK : KS sh z) (h : RI d z R K u) (ho : o = (v, none)) : Rn ((f_X12_refuses N sh (z + 242) v d).bind fun r => some (r.1, r.2)) (RO z R K u o d) := by
  subst ho
  refine rn_bind (m_refuses hK) (fun r hr => ?_)
  exact rn_some ⟨hr.1, hr.2.mfr, ri_rg h hr.2⟩
/-- says() at the end of a call that changes nothing -/
theorem ro_says {v : Int32} {o : Int32 × Option (Nat → Int32)} (hK : KS sh z) (h : RI d z R K u) (ho : o = (v, none)) : Rn ((f_X12_says N sh (z + 242) v d).bind fun r => some (r.1, r.2)) (RO z R K u o d) := by
  subst ho
  refine rn_eq (m_says hK) ?_
  exact rn_some ⟨rfl, MFR.wI (by decide) (by decide), ri_rg h (RG.w242 (Or.inl rfl))⟩
/-- says() at the end of a CHANGE -/
theorem ro_done {d0 d1 : Dt} {v : Int32} {o : Int32 × Option (Nat → Int32)} (hK : KS sh z) (h : RI d1 z R' R true) (hm : MFR z d0 d1) (ho : o = (v, some R')) : Rn ((f_X12_says N sh (z + 242) v d1).bind fun r => some (r.1, r.2)) (RO z R K u o d0) := by
  subst ho
  refine rn_eq (m_says hK) ?_
  exact rn_some ⟨rfl, hm.tr (MFR.wI (by decide) (by decide)), ri_rg h (RG.w242 (Or.inl rfl))⟩
/-- one cell of the state is written; the ways are as they were -/
theorem ri_cell {j : Nat} {v : Int32} (h : RI d z R K u) (hr : d.1 (z + 242) 10 = 0) : RI (wI d (z + 243) j v) z (va_up R j v) K u ∧ (wI d (z + 243) j v).1 (z + 242) 10 = 0 := by
  obtain ⟨h1, h2, h3, h4, h6⟩ := h
  have e : (wI d (z + 243) j v).1 (z + 242) = d.1 (z + 242) := wI_n (by omega)
  have e2 : (wI d (z + 243) j v).1 (z + 244) = d.1 (z + 244) := wI_n (by omega)
  refine ⟨⟨fun k hk => ?_, by rw [e2]; exact h2, by rw [e]; exact h3, by rw [e]; exact h4, Or.inl (by rw [e]; exact hr)⟩, by rw [e]; exact hr⟩
  rw [wI_s]
  unfold va_up
  by_cases ek : k = j
  · rw [if_pos ek, if_pos ek]
  · rw [if_neg ek, if_neg ek]
    exact h1 k hk
theorem ri_unreck (h : RI d z R K u) : RI (wI d (z + 242) 10 0) z R K u ∧ (wI d (z + 242) 10 0).1 (z + 242) 10 = 0 := by
  have e : (wI d (z + 242) 10 0).1 (z + 242) 10 = 0 := by rw [wI_s, va_up_s]
  exact ⟨ri_put h wI_s (by rw [wI_n (by omega)]; exact h.1) (wI_n (by omega)), e⟩
theorem m_turned {x b : Int32} {k : Nat} (hk : k < 9) (hNf : 15642 < N) (hK : KS sh z) (h : RI d z R K u) (hN : WN R) : Rn (f_X12_turned N sh (z + 242) x (nI k) b d) (RO z R K u (sp_turn R x k (if b = 0 then 0 else 1)) d) := by
  have n1 := hN.2.1.2
  unfold f_X12_turned
  refine rn_t (ks_o hK 242 12 rfl) ?_
  refine rn_eq (ri_isStreet hK h hN) ?_
  unfold sp_turn
  refine rn_ite (fun h1 => ?_) (fun h1 => ?_)
  · have h2 : ¬ (x < 0 ∨ nI (nn R 1) ≤ x) := fun q => h1 (ite01.mpr q)
    rw [if_neg h2]
    obtain ⟨i, hi, rfl, e2⟩ := st_of (by omega) h2
    rw [e2]
    refine rn_bind (ri_keeps h hK hNf) (fun d1 hd => ?_)
    obtain ⟨x1, x2⟩ := hd
    refine r_pI hK (i := 242) (c := 12) rfl ?_
    obtain ⟨y1, y2⟩ := ri_unreck x1
    have ym := x2.tr (MFR.wI (i := 242) (k := 10) (v := 0) (by decide) (by decide))
    generalize wI d1 (z + 242) 10 0 = d2 at y1 y2 ym ⊢
    refine r_gP hK 242 12 0 243 rfl (by decide) ?_
    refine rn_eq (m_st hK) ?_
    have ha := ks_a hK 243 0 15642 rfl
    refine rn_eq (q_aT ha (16 + 9 * i + k) (ix_st i k) (by omega) (by decide)) ?_
    refine r_gP hK 242 12 0 243 rfl (by decide) ?_
    refine rn_eq (m_st hK) ?_
    have ev : d2.1 (z + 243) (16 + 9 * i + k) = R (16 + 9 * i + k) := y1.1 _ (by omega)
    rw [ev]
    refine rn_ite (fun h3 => ?_) (fun h3 => ?_)
    · rw [if_pos h3]
      unfold f_X12_turned_58
      refine rn_eq (q_sI ha (16 + 9 * i + k) (ix_st i k) (by omega) (by decide)) ?_
      exact ro_done hK (ri_cell y1 y2).1 (ym.tr (MFR.wI (by decide) (by decide))) rfl
    · rw [if_neg h3]
      unfold f_X12_turned_58
      refine rn_eq (q_sI ha (16 + 9 * i + k) (ix_st i k) (by omega) (by decide)) ?_
      exact ro_done hK (ri_cell y1 y2).1 (ym.tr (MFR.wI (by decide) (by decide))) rfl
  · have h2 : x < 0 ∨ nI (nn R 1) ≤ x := ite01.mp (Decidable.of_not_not h1)
    rw [if_pos h2]
    exact ro_refuses hK h rfl
theorem m_oneWay {x b : Int32} (hNf : 15642 < N) (hK : KS sh z) (h : RI d z R K u) (hN : WN R) : Rn (f_X12_oneWay N sh (z + 242) x b d) (RO z R K u (sp_turn R x 5 (if b = 0 then 0 else 1)) d) := by
  unfold f_X12_oneWay
  refine rn_t (ks_o hK 242 12 rfl) ?_
  exact rn_bind (m_turned (k := 5) (by decide) hNf hK h hN) (fun r hr => rn_some hr)
theorem m_shut {x b : Int32} (hNf : 15642 < N) (hK : KS sh z) (h : RI d z R K u) (hN : WN R) : Rn (f_X12_shut N sh (z + 242) x b d) (RO z R K u (sp_turn R x 4 (if b = 0 then 0 else 1)) d) := by
  unfold f_X12_shut
  refine rn_t (ks_o hK 242 12 rfl) ?_
  exact rn_bind (m_turned (k := 4) (by decide) hNf hK h hN) (fun r hr => rn_some hr)
/-! told() -/
def sp_told (R : Nat → Int32) (x w : Int32) : Int32 × Option (Nat → Int32) := if (x < 0 ∨ nI (nn R 1) ≤ x) ∨ (w < 0 ∨ 8 < w) then (-2, none) else (R (16 + 9 * x.toNatClampNeg + w.toNatClampNeg), none)
theorem lt9 {w : Int32} : w < 9 ↔ ¬ 8 < w := by
  rw [Int32.lt_iff_toInt_lt, Int32.lt_iff_toInt_lt]
  have e1 : (9 : Int32).toInt = 9 := by decide
  have e2 : (8 : Int32).toInt = 8 := by decide
  omega
theorem w_of {w : Int32} (h : ¬ (w < 0 ∨ 8 < w)) : ∃ k, k < 9 ∧ w = nI k ∧ w.toNatClampNeg = k := st_of (n := 9) (by decide) (fun q => h (q.elim Or.inl (fun q => Or.inr (by
  have : ¬ w < 9 := fun r => Int32.not_le.mpr r q
  exact Decidable.of_not_not (fun r => this (lt9.mpr r))))))
theorem m_told {x w : Int32} (hK : KS sh z) (h : RI d z R K u) (hN : WN R) : Rn (f_X12_told N sh (z + 242) x w d) (RO z R K u (sp_told R x w) d) := by
  have n1 := hN.2.1.2
  unfold f_X12_told
  refine rn_t (ks_o hK 242 12 rfl) ?_
  refine rn_eq (ri_isStreet hK h hN) ?_
  unfold sp_told
  refine rn_ite (fun h1 => ?_) (fun h1 => ?_)
  · rw [if_pos (Or.inl (ite01.mp h1))]
    exact ro_refuses hK h rfl
  · have h2 : ¬ (x < 0 ∨ nI (nn R 1) ≤ x) := fun q => h1 (ite01.mpr q)
    refine rn_eq m_in ?_
    refine rn_ite (fun h3 => ?_) (fun h3 => ?_)
    · have h4 : ¬ (w < 0 ∨ 8 < w) := fun q => h3 (ite01.mpr q)
      rw [if_neg (fun q => q.elim h2 h4)]
      obtain ⟨i, hi, rfl, e2⟩ := st_of (by omega) h2
      obtain ⟨k, hk, rfl, e3⟩ := w_of h4
      rw [e2, e3]
      refine r_gP hK 242 12 0 243 rfl (by decide) ?_
      refine rn_eq (m_st hK) ?_
      refine rn_eq (q_aT (ks_a hK 243 0 15642 rfl) (16 + 9 * i + k) (ix_st i k) (by omega) (by decide)) ?_
      rw [h.1 _ (by omega)]
      exact ro_says hK h rfl
    · have h4 : w < 0 ∨ 8 < w := ite01.mp (Decidable.of_not_not h3)
      rw [if_pos (Or.inr h4)]
      exact ro_refuses hK h rfl
/-- a call of the class that keeps the shape -/
def KD (z : Nat) (R K : Nat → Int32) (u : Bool) (c : Nat) (o : Int32 × Option (Nat → Int32)) (s : AS) (r : Int32 × Dt) : Prop := KO z R K u c o s (r.1, (s.1, r.2))
theorem k_told {x w : Int32} (h : CI s z ow R K u y c) (hR : WF R) : Rn (f_X11_told N s.1 z x w s.2) (KD z R K u c (sp_told R x w) s) := by
  have hK := h.1
  have n1 := hR.1.2.1.2
  have ht4 : tck 4 9 = true := by decide
  have hB : BK s.1 s.2 z ow 3 R y.1 := h.2.2.1
  have bad : (x < 0 ∨ nI (nn R 1) ≤ x) ∨ (w < 0 ∨ 8 < w) → Rn (f_X11_told_24 N s.1 z s.2) (KD z R K u c (sp_told R x w) s) := fun hb => by
    unfold sp_told
    rw [if_pos hb]
    unfold f_X11_told_24
    refine rn_bind (k_refuse hK) (fun r hr => rn_some ?_)
    exact ko_lg h hr rfl
  unfold f_X11_told
  refine rn_t (ks_o hK 0 11 rfl) ?_
  refine r_gP hK 0 11 1 3 rfl (by decide) ?_
  refine r_gP hK 3 1 1 4 rfl (by decide) ?_
  refine rn_eq (tb_has (o := 4) (nc := 9) hK ht4 hB.2.1) ?_
  refine rn_ite (fun h1 => bad (Or.inl (ite01.mp h1))) (fun h1 => ?_)
  refine rn_ite (fun h2 => bad (Or.inr (Or.inl h2))) (fun h2 => ?_)
  refine rn_ite (fun h3 => ?_) (fun h3 => bad (Or.inr (Or.inr (Decidable.of_not_not (fun q => h3 (lt9.mpr q))))))
  have h4 : ¬ (x < 0 ∨ nI (nn R 1) ≤ x) := fun q => h1 (ite01.mpr q)
  have h5 : ¬ (w < 0 ∨ 8 < w) := fun q => q.elim h2 (fun q => lt9.mp h3 q)
  unfold sp_told
  rw [if_neg (fun q => q.elim h4 h5)]
  obtain ⟨i, hi, rfl, e2⟩ := st_of (by omega) h4
  obtain ⟨k, hk, rfl, e3⟩ := w_of h5
  rw [e2, e3]
  refine r_gP hK 0 11 1 3 rfl (by decide) ?_
  refine r_gP hK 3 1 1 4 rfl (by decide) ?_
  refine rn_eq (tb_get (o := 4) (nc := 9) hK ht4 hB.2.1 rfl hi rfl hk) ?_
  refine rn_bind (k_answer hK) (fun r hr => rn_some ?_)
  exact ko_lg h hr rfl
end T2
/-! 56.sides.lean.txt -/
/-! sides(), and the calls that only tell -/
section SD
variable {s : AS} {sh : Sh} {d : Dt} {z : Nat} {ow : Nat → Nat} {R R' K : Nat → Int32} {u : Bool} {y : YL} {c N : Nat}
/-- the same map -/
def GEQ (R R' : Nat → Int32) : Prop := nn R' 0 = nn R 0 ∧ nn R' 1 = nn R 1 ∧ ∀ s k, s < nn R 1 → 4 ≤ k → k < 9 → R' (16 + 9 * s + k) = R (16 + 9 * s + k)
theorem GEQ.sy (h : GEQ R R') : GEQ R' R := ⟨h.1.symm, h.2.1.symm, fun s k hs h1 h2 => (h.2.2 s k (by rw [← h.2.1]; exact hs) h1 h2).symm⟩
theorem GEQ.edge (h : GEQ R R') {s a b : Nat} (he : edge R s a b) : edge R' s a b := by
  obtain ⟨h1, h2, h3⟩ := he
  refine ⟨by rw [h.2.1]; exact h1, by rw [h.2.2 s 4 h1 (by omega) (by omega)]; exact h2, ?_⟩
  rw [h.2.2 s 7 h1 (by omega) (by omega), h.2.2 s 8 h1 (by omega) (by omega), h.2.2 s 5 h1 (by omega) (by omega)]
  exact h3
theorem GEQ.wk (h : GEQ R R') : ∀ (p : List Nat) (a b : Nat), wk R p a b → wk R' p a b ∧ wln R' p = wln R p
  | [], a, b, hw => ⟨hw, rfl⟩
  | s :: p, a, b, hw => by
    obtain ⟨c, h1, h2, h3⟩ := hw
    have ih := GEQ.wk h p c b h3
    refine ⟨⟨c, by rw [h.1]; exact h1, h.edge h2, ih.1⟩, ?_⟩
    show sln R' s + wln R' p = sln R s + wln R p
    rw [ih.2]
    unfold sln nn
    rw [h.2.2 s 6 h2.1 (by omega) (by omega)]
theorem GEQ.dst (h : GEQ R R') {a b n : Nat} (hd : dst R a b n) : dst R' a b n := by
  obtain ⟨⟨p, h1, h2⟩, h3⟩ := hd
  refine ⟨⟨p, (h.wk p a b h1).1, by rw [(h.wk p a b h1).2]; exact h2⟩, fun q hq => ?_⟩
  have r := h.sy.wk q a b hq
  rw [← r.2]
  exact h3 q r.1
theorem GEQ.dOK (h : GEQ R R') {f a b : Nat} {x : Int32} (hd : dOK R f a b x) : dOK R' f a b x := by
  rcases hd with ⟨n, h1, h2, h3⟩ | ⟨h1, h2⟩
  · exact Or.inl ⟨n, h.dst h1, h2, h3⟩
  · exact Or.inr ⟨fun p hp => h1 p (h.sy.wk p a b hp).1, h2⟩
/-- a row's cell that is no part of the map is written -/
theorem ri_cellG {j : Nat} {v : Int32} (h : RI d z R K u) (hN : WN R) (hj : 2 ≤ j) (hj2 : ∀ s k, s < 150 → 4 ≤ k → k < 9 → 16 + 9 * s + k ≠ j) : RI (wI d (z + 243) j v) z (va_up R j v) K u := by
  obtain ⟨h1, h2, h3, h4, h6⟩ := h
  have n1 := hN.2.1.2
  have e : (wI d (z + 243) j v).1 (z + 242) = d.1 (z + 242) := wI_n (by omega)
  have e2 : (wI d (z + 243) j v).1 (z + 244) = d.1 (z + 244) := wI_n (by omega)
  have e3 : (wI d (z + 243) j v).1 (z + 247) = d.1 (z + 247) := wI_n (by omega)
  have hg : GEQ R (va_up R j v) := ⟨nn_up (by omega), nn_up (by omega), fun s k hs q1 q2 => va_up_n (hj2 s k (by omega) q1 q2)⟩
  refine ⟨fun k hk => ?_, by rw [e2]; exact h2, by rw [e]; exact h3, by rw [e]; exact h4, ?_⟩
  · rw [wI_s]
    unfold va_up
    by_cases ek : k = j
    · rw [if_pos ek, if_pos ek]
    · rw [if_neg ek, if_neg ek]
      exact h1 k hk
  · rw [e, e3]
    rcases h6 with h6 | h6
    · exact Or.inl h6
    · refine Or.inr ⟨h6.1, fun a b ha hb => hg.dOK (h6.2 a b ?_ ?_)⟩
      · rw [hg.1] at ha
        exact ha
      · rw [hg.1] at hb
        exact hb
theorem wn_up {j : Nat} {v : Int32} (h : WN R) (hj : 5 ≤ j) : WN (va_up R j v) := by
  unfold WN
  rw [va_up_n (f := R) (show (0 : Nat) ≠ j by omega), va_up_n (f := R) (show (1 : Nat) ≠ j by omega), va_up_n (f := R) (show (2 : Nat) ≠ j by omega), va_up_n (f := R) (show (3 : Nat) ≠ j by omega), va_up_n (f := R) (show (4 : Nat) ≠ j by omega), nn_up (by omega), nn_up (by omega), nn_up (by omega), nn_up (by omega), nn_up (by omega)]
  exact h
def sp_sides (R : Nat → Int32) (x n : Int32) : Int32 × Option (Nat → Int32) := if (x < 0 ∨ nI (nn R 1) ≤ x) ∨ (n < 0 ∨ 2 < n) then (-2, none) else (R (16 + 9 * x.toNatClampNeg + 3), some (va_up (va_up R (16 + 9 * x.toNatClampNeg + 3) n) (16 + 9 * x.toNatClampNeg + 2) 0))
theorem le2 {n : Int32} : n ≤ 2 ↔ ¬ 2 < n := ⟨fun h q => Int32.not_le.mpr q h, fun h => Int32.not_lt.mp h⟩
theorem m_sides {x n : Int32} (hNf : 15642 < N) (hK : KS sh z) (h : RI d z R K u) (hN : WN R) : Rn (f_X12_sides N sh (z + 242) x n d) (RO z R K u (sp_sides R x n) d) := by
  have n1 := hN.2.1.2
  unfold f_X12_sides
  refine rn_t (ks_o hK 242 12 rfl) ?_
  refine rn_eq (ri_isStreet hK h hN) ?_
  unfold sp_sides
  refine rn_ite (fun h1 => ?_) (fun h1 => ?_)
  · rw [if_pos (Or.inl (ite01.mp h1))]
    exact ro_refuses hK h rfl
  · have h2 : ¬ (x < 0 ∨ nI (nn R 1) ≤ x) := fun q => h1 (ite01.mpr q)
    refine rn_eq m_in ?_
    refine rn_ite (fun h3 => ?_) (fun h3 => ?_)
    · have h4 : ¬ (n < 0 ∨ 2 < n) := fun q => h3 (ite01.mpr q)
      rw [if_neg (fun q => q.elim h2 h4)]
      obtain ⟨i, hi, rfl, e2⟩ := st_of (by omega) h2
      rw [e2]
      refine rn_bind (ri_keeps h hK hNf) (fun d1 hd => ?_)
      obtain ⟨x1, x2⟩ := hd
      have ha := ks_a hK 243 0 15642 rfl
      refine r_gP hK 242 12 0 243 rfl (by decide) ?_
      refine rn_eq (m_st hK) ?_
      refine rn_eq (q_aT ha (16 + 9 * i + 3) (ix_st i 3) (by omega) (by decide)) ?_
      refine r_gP hK 242 12 0 243 rfl (by decide) ?_
      refine rn_eq (m_st hK) ?_
      refine rn_eq (q_sI ha (16 + 9 * i + 3) (ix_st i 3) (by omega) (by decide)) ?_
      refine r_gP hK 242 12 0 243 rfl (by decide) ?_
      refine rn_eq (m_st hK) ?_
      refine rn_eq (q_sI ha (16 + 9 * i + 2) (ix_st i 2) (by omega) (by decide)) ?_
      have ev : d1.1 (z + 243) (16 + 9 * i + 3) = R (16 + 9 * i + 3) := x1.1 _ (by omega)
      rw [ev]
      have r1 := ri_cellG (j := 16 + 9 * i + 3) (v := n) x1 hN (by omega) (fun s k _ q1 q2 => by omega)
      have r2 := ri_cellG (j := 16 + 9 * i + 2) (v := 0) r1 (wn_up hN (by omega)) (by omega) (fun s k _ q1 q2 => by omega)
      exact ro_done hK r2 (x2.tr ((MFR.wI (by decide) (by decide)).tr (MFR.wI (by decide) (by decide)))) rfl
    · have h4 : n < 0 ∨ 2 < n := ite01.mp (Decidable.of_not_not h3)
      rw [if_pos (Or.inr h4)]
      exact ro_refuses hK h rfl
theorem k_sides {x n : Int32} (hNf : 30 ≤ N) (h : CI s z ow R K u y c) (hR : WF R) (hKF : WF K) : Rn (f_X11_sides N z x n s) (KO z R K u c (sp_sides R x n) s) := by
  have hK := h.1
  have n1 := hR.1.2.1.2
  have ht4 : tck 4 9 = true := by decide
  have bad : (n < 0 ∨ 2 < n) → Rn (f_X11_sides_9 N z s) (KO z R K u c (sp_sides R x n) s) := fun hb => by
    unfold sp_sides
    rw [if_pos (Or.inr hb)]
    unfold f_X11_sides_9
    refine rn_bind (k_refuse hK) (fun r hr => rn_some ?_)
    exact ko_lg h hr rfl
  unfold f_X11_sides
  refine rn_t (ks_o hK 0 11 rfl) ?_
  refine rn_ite (fun h1 => bad (Or.inl h1)) (fun h1 => ?_)
  refine rn_ite (fun h2 => ?_) (fun h2 => bad (Or.inr (Decidable.of_not_not (fun q => h2 (le2.mpr q)))))
  refine rn_bind (k_becomeF (k := 3) hNf (by decide) h hR hKF) (fun r hr => ?_)
  obtain ⟨⟨k1, k2, ow1, y1, k3⟩, k4⟩ := hr
  by_cases hb : x < 0 ∨ nI (nn R 1) ≤ x
  · rw [show sp_sides R x n = _ from if_pos (Or.inl hb)]
    unfold f_X11_sides_23
    unfold sp_turn at k1 k3
    rw [if_pos hb] at k1 k3
    have hneg : r.1 < 0 := by
      rw [k1]
      decide
    refine rn_t hneg ?_
    exact rn_some ⟨k1, k2, ow1, y1, k3⟩
  · have h3 : ¬ (n < 0 ∨ 2 < n) := fun q => q.elim h1 (fun q => le2.mp h2 q)
    rw [show sp_sides R x n = _ from if_neg (fun q => q.elim hb h3)]
    unfold f_X11_sides_23
    unfold sp_turn at k1 k3 k4
    rw [if_neg hb] at k1 k3 k4
    obtain ⟨i, hi, rfl, e2⟩ := st_of (by omega) hb
    rw [e2] at k1 k3 k4 ⊢
    obtain ⟨g1, g2, g3⟩ := k4 rfl
    have k3 : CI r.2 z ow1 (va_up R (16 + 9 * i + 3) n) R true y1 c := k3
    have k1 : r.1 = R (16 + 9 * i + 3) := k1
    obtain ⟨-, -, -, -, hs, hs2⟩ := hR.2.2.1 i hi
    have hneg : ¬ r.1 < 0 := by
      rw [k1, hs]
      exact nI_pos (by omega)
    refine rn_f hneg ?_
    have hK1 := k3.1
    have hw1 := k3.2.1
    have hN1 : WN (va_up R (16 + 9 * i + 3) n) := wn_up hR.1 (by omega)
    have hi1 : i < nn (va_up R (16 + 9 * i + 3) n) 1 := by
      rw [nn_up (by omega)]
      exact hi
    have hB1 : BK r.2.1 r.2.2 z ow1 3 (va_up R (16 + 9 * i + 3) n) y1.1 := k3.2.2.1
    refine r_gP hK1 0 11 1 3 rfl (by decide) ?_
    refine r_gP hK1 3 1 1 4 rfl (by decide) ?_
    refine rn_bind (tb_put (o := 4) (nc := 9) (c := 2) hK1 hw1 ht4 hB1.2.1 rfl hi1 rfl (by decide)) (fun d1 hd => ?_)
    have hbk := bk_upS (Or.inl rfl) hK1 hw1 hN1 hB1 hi1 (k := 2) (by decide) hd.1 hd.2
    have q := ci_new k3 g1 g2 g3 (hd.2.mono (fun a ha => ix_mono (tx_ix ht4 hw1 ha) (by omega) (by omega))) hbk (pb_congr k3.2.2.2.2.2.1 (va_up_n (by omega)) (fun j hj => va_up_n (by omega)))
    exact rn_some ⟨k1, k2.tr q.2, ow1, y1, q.1⟩
/-! calls that only tell what p17 doesn't compare: they run -/
theorem k_looks (hK : KS sh z) : Rn (f_X11_looks N sh z d) (fun _ => True) := by
  unfold f_X11_looks
  refine rn_t (ks_o hK 0 11 rfl) ?_
  refine r_gP hK 0 11 0 1 rfl (by decide) ?_
  exact r_gI hK (i := 1) (c := 2) rfl (rn_some trivial)
theorem k_status (hK : KS sh z) : Rn (f_X11_status N sh z d) (fun _ => True) := by
  unfold f_X11_status
  refine rn_t (ks_o hK 0 11 rfl) ?_
  refine r_gP hK 0 11 0 1 rfl (by decide) ?_
  exact r_gI hK (i := 1) (c := 2) rfl (rn_some trivial)
theorem k_trace (hK : KS sh z) : Rn (f_X11_trace N sh z d) (fun _ => True) := by
  unfold f_X11_trace
  refine rn_t (ks_o hK 0 11 rfl) ?_
  refine r_gP hK 0 11 0 1 rfl (by decide) ?_
  exact r_gI hK (i := 1) (c := 2) rfl (rn_some trivial)
theorem m_looks (hK : KS sh z) : Rn (f_X12_looks N sh (z + 242) d) (fun _ => True) := by
  unfold f_X12_looks
  refine rn_t (ks_o hK 242 12 rfl) ?_
  exact r_gI hK (i := 242) (c := 12) rfl (rn_some trivial)
theorem m_status (hK : KS sh z) : Rn (f_X12_status N sh (z + 242) d) (fun _ => True) := by
  unfold f_X12_status
  refine rn_t (ks_o hK 242 12 rfl) ?_
  exact r_gI hK (i := 242) (c := 12) rfl (rn_some trivial)
theorem m_trace (hK : KS sh z) : Rn (f_X12_trace N sh (z + 242) d) (fun _ => True) := by
  unfold f_X12_trace
  refine rn_t (ks_o hK 242 12 rfl) ?_
  exact r_gI hK (i := 242) (c := 12) rfl (rn_some trivial)
theorem k_findings {v : Int32} (hK : KS sh z) : Rn (f_X11_findings N sh z v d) (fun _ => True) := by
  unfold f_X11_findings
  refine rn_t (ks_o hK 0 11 rfl) ?_
  have ha := ks_a hK 2 0 5 rfl
  refine rn_ite (fun _ => rn_some trivial) (fun h1 => ?_)
  refine r_gP hK 0 11 0 1 rfl (by decide) ?_
  refine r_gP hK 1 2 0 2 rfl (by decide) ?_
  refine rn_eq (q_len ha (by decide)) ?_
  refine rn_ite (fun _ => rn_some trivial) (fun h2 => ?_)
  obtain ⟨i, hi, rfl, -⟩ := st_of (n := 5) (by decide) (fun q => q.elim h1 h2)
  refine r_gP hK 0 11 0 1 rfl (by decide) ?_
  refine r_gP hK 1 2 0 2 rfl (by decide) ?_
  exact rn_eq (q_aT ha i rfl hi (by decide)) (rn_some trivial)
theorem m_findings {v : Int32} (hK : KS sh z) : Rn (f_X12_findings N sh (z + 242) v d) (fun _ => True) := by
  unfold f_X12_findings
  refine rn_t (ks_o hK 242 12 rfl) ?_
  refine rn_eq m_in ?_
  refine rn_ite (fun _ => rn_some trivial) (fun h1 => ?_)
  have h2 : ¬ (v < 0 ∨ nI 5 ≤ v) := fun q => h1 (ite01.mpr (q.elim Or.inl (fun q => Or.inr ((lt_pred (n := 5) (by decide)).mpr q))))
  obtain ⟨i, hi, rfl, -⟩ := st_of (n := 5) (by decide) h2
  refine r_gP hK 242 12 6 245 rfl (by decide) ?_
  exact rn_eq (q_aT (ks_a hK 245 0 5 rfl) i rfl hi (by decide)) (rn_some trivial)
theorem k_count {v : Int32} (hK : KS sh z) : Rn (f_X11_count N sh z v d) (fun _ => True) := by
  unfold f_X11_count
  refine rn_t (ks_o hK 0 11 rfl) ?_
  refine rn_ite (fun _ => ?_) (fun _ => rn_ite (fun _ => ?_) (fun _ => rn_ite (fun _ => ?_) (fun _ => rn_ite (fun _ => ?_) (fun _ => rn_some trivial))))
  · refine r_gP hK 0 11 1 3 rfl (by decide) ?_
    exact r_gI hK (i := 3) (c := 1) rfl (rn_some trivial)
  · refine r_gP hK 0 11 1 3 rfl (by decide) ?_
    refine r_gP hK 3 1 1 4 rfl (by decide) ?_
    exact r_gI hK (i := 4) (c := 8) rfl (rn_some trivial)
  · refine r_gP hK 0 11 1 3 rfl (by decide) ?_
    refine r_gP hK 3 1 2 15 rfl (by decide) ?_
    exact r_gI hK (i := 15) (c := 8) rfl (rn_some trivial)
  · refine r_gP hK 0 11 1 3 rfl (by decide) ?_
    refine r_gP hK 3 1 3 20 rfl (by decide) ?_
    exact r_gI hK (i := 20) (c := 8) rfl (rn_some trivial)
theorem m_count {v : Int32} (hK : KS sh z) : Rn (f_X12_count N sh (z + 242) v d) (fun _ => True) := by
  unfold f_X12_count
  refine rn_t (ks_o hK 242 12 rfl) ?_
  refine rn_eq m_in ?_
  refine rn_ite (fun _ => rn_some trivial) (fun h1 => ?_)
  have h2 : ¬ (v < 0 ∨ nI 4 ≤ v) := fun q => h1 (ite01.mpr (q.elim Or.inl (fun q => Or.inr ((lt_pred (n := 4) (by decide)).mpr q))))
  obtain ⟨i, hi, rfl, -⟩ := st_of (n := 4) (by decide) h2
  refine r_gP hK 242 12 0 243 rfl (by decide) ?_
  exact rn_eq (q_aT (ks_a hK 243 0 15642 rfl) i rfl (by omega) (by decide)) (rn_some trivial)
end SD
/-! 57.gau.lean.txt -/
/-! gauges: lose(), a reading -/
def BT (sh : Sh) (d : Dt) (z : Nat) (ow : Nat → Nat) (b : Nat) (R : Nat → Int32) (q : BL) : Prop := d.1 (z + b) 0 = R 0 ∧ TB sh d z ow (b + 1) 9 (nn R 1) (vS R) q.1 ∧ TB sh d z ow (b + 12) 3 (nn R 2) (vG R) q.2.1 ∧ TB sh d z ow (b + 17) 9 (nn R 3) (vP R) q.2.2.1 ∧ TB sh d z ow (b + 28) 4 (nn R 4) (vD R) q.2.2.2.1 ∧ nn R 2 * 200 ≤ q.2.2.2.2 ∧ QB q
section GA
variable {s : AS} {sh : Sh} {d : Dt} {z : Nat} {ow : Nat → Nat} {R R' K : Nat → Int32} {u : Bool} {y : YL} {c N b : Nat} {q : BL}
theorem BK.bt (h : BK sh d z ow b R q) : BT sh d z ow b R q ∧ CE sh d z ow b q.2.2.2.2 (inC R) (vC R) := ⟨⟨h.1, h.2.1, h.2.2.1, h.2.2.2.1, h.2.2.2.2.1, h.2.2.2.2.2.2.1, h.2.2.2.2.2.2.2⟩, h.2.2.2.2.2.1⟩
theorem BT.bk (h : BT sh d z ow b R q) (hc : CE sh d z ow b q.2.2.2.2 (inC R) (vC R)) : BK sh d z ow b R q := ⟨h.1, h.2.1, h.2.2.1, h.2.2.2.1, h.2.2.2.2.1, hc, h.2.2.2.2.2.1, h.2.2.2.2.2.2⟩
theorem wd_nn (h : WF R) {i : Nat} (hi : i < nn R 4) : nn R (9642 + 3 * i) < 150 := by
  obtain ⟨t, c, h1, h2, -⟩ := h.2.2.2.2.2 i hi
  have := h.1.2.1.2
  unfold nn
  rw [h2, nI_clamp (by omega)]
  omega
theorem bt_congr (hR : WF R) (h : BT sh d z ow b R q) (e : ∀ j, j < 1426 ∨ 9426 ≤ j → R' j = R j) : BT sh d z ow b R' q := by
  obtain ⟨h0, h1, h2, h3, h4, h6, h7⟩ := h
  have n1 := hR.1.2.1.2
  have n2 := hR.1.2.2.1.2
  have en : ∀ j, j < 1426 ∨ 9426 ≤ j → nn R' j = nn R j := fun j hj => by unfold nn; rw [e j hj]
  unfold BT
  rw [e 0 (by omega), en 1 (by omega), en 2 (by omega), en 3 (by omega), en 4 (by omega)]
  refine ⟨h0, tb_congr h1 (fun c' i' hc hi' => e _ (by omega)), tb_congr h2 (fun c' i' hc hi' => e _ (by omega)), tb_congr h3 (fun c' i' hc hi' => ?_), tb_congr h4 (fun c' i' hc hi' => ?_), h6, h7⟩
  · unfold vP
    simp only [e (9426 + 13 * i' + 6) (by omega), e (9426 + 13 * i' + 7) (by omega), e (9426 + 13 * i' + 8) (by omega), e (9426 + 13 * i' + 9) (by omega), e (9426 + 13 * i' + 10) (by omega), e (9426 + 13 * i' + 1) (by omega), e (9426 + 13 * i' + 2) (by omega), e (9426 + 13 * i') (by omega), e (9426 + 13 * i' + 11) (by omega), e (9426 + 13 * i' + 12) (by omega)]
  · have hs := wd_nn hR hi'
    unfold vD
    rw [en (9642 + 3 * i') (by omega), e (9642 + 3 * i') (by omega), e (9642 + 3 * i' + 1) (by omega), e (9642 + 3 * i' + 2) (by omega), e (16 + 9 * nn R (9642 + 3 * i') + 7) (by omega), e (16 + 9 * nn R (9642 + 3 * i') + 8) (by omega)]
theorem bt_upG {g k : Nat} {v : Int32} {d' : Dt} (hb : bck b) (hK : KS sh z) (hw : OWS ow z) (hR : WF R) (h : BT sh d z ow b R q) (hg : g < nn R 2) (hk : k < 3) (ht : TB sh d' z ow (b + 12) 3 (nn R 2) (fun c' i' => if c' = k ∧ i' = g then v else vG R c' i') q.2.1) (hf : FD (TX z ow (b + 12)) d d') : BT sh d' z ow b (va_up R (1366 + 3 * g + k) v) q := by
  obtain ⟨h0, h1, h2, h3, h4, h6, h7⟩ := h
  have hwb := bck_w hb hw
  have hts := bck_t hb
  have n1 := hR.1.2.1.2
  have n2 := hR.1.2.2.1.2
  have hf2 : FD (IX z ow (b + 12) (b + 13)) d d' := hf.mono (fun a ha => tx_ix hts.2.1 hw ha)
  have he : ES (IX z ow (b + 12) (b + 13)) (sh, d) ow (sh, d') ow := hf2.es
  have r0 : d'.1 (z + b) = d.1 (z + b) := (hf2 (z + b) (nix hwb.1 hwb.2 (by omega))).1
  have e : ∀ j, j ≠ 1366 + 3 * g + k → va_up R (1366 + 3 * g + k) v j = R j := fun j hj => va_up_n hj
  have t1 : TB sh d' z ow (b + 1) 9 (nn R 1) (vS R) q.1 := tb_ix (s := (sh, d)) h1 hK hw hts.1 he (by omega)
  have t3 : TB sh d' z ow (b + 17) 9 (nn R 3) (vP R) q.2.2.1 := tb_ix (s := (sh, d)) h3 hK hw hts.2.2.1 he (by omega)
  have t4 : TB sh d' z ow (b + 28) 4 (nn R 4) (vD R) q.2.2.2.1 := tb_ix (s := (sh, d)) h4 hK hw hts.2.2.2 he (by omega)
  unfold BT
  rw [nn_up (k := 1) (by omega), nn_up (k := 2) (by omega), nn_up (k := 3) (by omega), nn_up (k := 4) (by omega), e 0 (by omega), r0]
  refine ⟨h0, tb_congr t1 (fun c' i' hc hi' => e _ (by omega)), tb_congr ht (fun c' i' hc hi' => ?_), tb_congr t3 (fun c' i' hc hi' => ?_), tb_congr t4 (fun c' i' hc hi' => ?_), h6, h7⟩
  · show va_up R (1366 + 3 * g + k) v (1366 + 3 * i' + c') = _
    by_cases q : c' = k ∧ i' = g
    · rw [if_pos q, q.1, q.2, va_up_s]
    · rw [if_neg q, e _ (by omega)]
      rfl
  · unfold vP
    simp only [e (9426 + 13 * i' + 6) (by omega), e (9426 + 13 * i' + 7) (by omega), e (9426 + 13 * i' + 8) (by omega), e (9426 + 13 * i' + 9) (by omega), e (9426 + 13 * i' + 10) (by omega), e (9426 + 13 * i' + 1) (by omega), e (9426 + 13 * i' + 2) (by omega), e (9426 + 13 * i') (by omega), e (9426 + 13 * i' + 11) (by omega), e (9426 + 13 * i' + 12) (by omega)]
  · have hs := wd_nn hR hi'
    unfold vD
    rw [nn_up (k := 9642 + 3 * i') (by omega), e (9642 + 3 * i') (by omega), e (9642 + 3 * i' + 1) (by omega), e (9642 + 3 * i' + 2) (by omega), e (16 + 9 * nn R (9642 + 3 * i') + 7) (by omega), e (16 + 9 * nn R (9642 + 3 * i') + 8) (by omega)]
theorem k_isMissing {g : Nat} (hb : bck b) (hK : KS sh z) (h : BT sh d z ow b R q) (hg : g < nn R 2) : f_X1_isMissing N sh (z + b) (nI g) d = some (if R (1366 + 3 * g + 2) = -1 then 1 else 0) := by
  have hts := bck_t hb
  refine rn_val ?_
  unfold f_X1_isMissing
  refine rn_t (ks_o hK b 1 (bck_o hb)) ?_
  refine r_gP hK b 1 2 (b + 12) (bck_o hb) (bck_p hb).2.1 ?_
  refine rn_eq (tb_get (c := 2) hK hts.2.1 h.2.2.1 rfl hg rfl (by decide)) ?_
  refine rn_ite (fun h1 => ?_) (fun h1 => ?_)
  · have h1 : ¬ R (1366 + 3 * g + 2) = -1 := h1
    rw [if_neg h1]
    exact ⟨0, rfl, rfl⟩
  · have h1 : R (1366 + 3 * g + 2) = -1 := Decidable.of_not_not h1
    rw [if_pos h1]
    exact ⟨1, rfl, rfl⟩
/-! lose() -/
def sp_lose (R : Nat → Int32) (x : Int32) : Int32 × Option (Nat → Int32) := if x < 0 ∨ nI (nn R 2) ≤ x then (-2, none) else ((if R (1366 + 3 * x.toNatClampNeg + 2) = -1 then 0 else 1), some (va_up R (1366 + 3 * x.toNatClampNeg + 2) (-1)))
theorem nn_m1 {j : Nat} (h : R j = -1) : nn R j = 0 := by
  unfold nn
  rw [h]
  decide
theorem m_lose {x : Int32} (hNf : 15642 < N) (hK : KS sh z) (h : RI d z R K u) (hR : WF R) : Rn (f_X12_lose N sh (z + 242) x d) (RO z R K u (sp_lose R x) d) := by
  have hN := hR.1
  have n2 := hN.2.2.1.2
  unfold f_X12_lose
  refine rn_t (ks_o hK 242 12 rfl) ?_
  refine rn_eq (ri_isGauge hK h hN) ?_
  by_cases hb : x < 0 ∨ nI (nn R 2) ≤ x
  · rw [show sp_lose R x = _ from if_pos hb]
    refine rn_f (fun q => q (ite01.mpr hb)) ?_
    exact ro_refuses hK h rfl
  · rw [show sp_lose R x = _ from if_neg hb]
    refine rn_t (fun q => hb (ite01.mp q)) ?_
    obtain ⟨g, hg, rfl, e2⟩ := st_of (by omega) hb
    rw [e2]
    refine rn_bind (ri_keeps h hK hNf) (fun d1 hd => ?_)
    obtain ⟨x1, x2⟩ := hd
    have ha := ks_a hK 243 0 15642 rfl
    refine r_gP hK 242 12 0 243 rfl (by decide) ?_
    refine rn_eq (m_ga hK) ?_
    refine rn_eq (q_aT ha (1366 + 3 * g + 2) (ix_ga g 2) (by omega) (by decide)) ?_
    refine r_gP hK 242 12 0 243 rfl (by decide) ?_
    refine rn_eq (m_ga hK) ?_
    refine rn_eq (q_sI ha (1366 + 3 * g + 2) (ix_ga g 2) (by omega) (by decide)) ?_
    rw [x1.1 (1366 + 3 * g + 2) (by omega)]
    have r1 := ri_cellG (j := 1366 + 3 * g + 2) (v := -1) x1 hN (by omega) (fun s k _ q1 q2 => by omega)
    have hh := (hR.2.1 g hg).1
    have hh2 := (hR.2.1 g hg).2
    refine rn_ite (fun h1 => ?_) (fun h1 => ?_)
    · have hne : ¬ R (1366 + 3 * g + 2) = -1 := fun q => by
        rw [q] at h1
        exact absurd h1 (by decide)
      rw [if_neg hne]
      exact ro_done hK r1 (x2.tr (MFR.wI (by decide) (by decide))) rfl
    · have he : R (1366 + 3 * g + 2) = -1 := hh.resolve_right (fun q => h1 (by rw [q]; exact nI_pos' (by omega)))
      rw [if_pos he]
      exact ro_done hK r1 (x2.tr (MFR.wI (by decide) (by decide))) rfl
theorem k_lose {x : Int32} (hNf : 30 ≤ N) (h : CI s z ow R K u y c) (hR : WF R) (hKF : WF K) : Rn (f_X11_lose N z x s) (KO z R K u c (sp_lose R x) s) := by
  have hK := h.1
  have n2 := hR.1.2.2.1.2
  have ht : tck 15 3 = true := by decide
  have hB : BK s.1 s.2 z ow 3 R y.1 := h.2.2.1
  unfold f_X11_lose
  refine rn_t (ks_o hK 0 11 rfl) ?_
  refine r_gP hK 0 11 1 3 rfl (by decide) ?_
  refine r_gP hK 3 1 2 15 rfl (by decide) ?_
  refine rn_eq (tb_has (o := 15) (nc := 3) hK ht hB.2.2.1) ?_
  by_cases hb : x < 0 ∨ nI (nn R 2) ≤ x
  · rw [show sp_lose R x = _ from if_pos hb]
    refine rn_f (fun q => q (ite01.mpr hb)) ?_
    refine rn_bind (k_refuse hK) (fun r hr => rn_some ?_)
    exact ko_lg h hr rfl
  · rw [show sp_lose R x = _ from if_neg hb]
    refine rn_t (fun q => hb (ite01.mp q)) ?_
    obtain ⟨g, hg, rfl, e2⟩ := st_of (by omega) hb
    rw [e2]
    refine r_gP hK 0 11 1 3 rfl (by decide) ?_
    refine rn_eq (k_isMissing (b := 3) (Or.inl rfl) hK hB.bt.1 hg) ?_
    refine rn_bind (ci_change hNf h hR.1 hR.2.1 hKF.1) (fun s1 hs => ?_)
    obtain ⟨f1, g1, g2, g3, ow1, y1, -, c1⟩ := hs
    have hK1 := c1.1
    have hw1 := c1.2.1
    have hB1 : BK s1.1 s1.2 z ow1 3 R y1.1 := c1.2.2.1
    unfold f_X11_lose_34
    refine r_gP hK1 0 11 1 3 rfl (by decide) ?_
    refine r_gP hK1 3 1 2 15 rfl (by decide) ?_
    refine rn_bind (tb_put (o := 15) (nc := 3) (c := 2) hK1 hw1 ht hB1.2.2.1 rfl hg rfl (by decide)) (fun d1 hd => ?_)
    have hbt := bt_upG (b := 3) (Or.inl rfl) hK1 hw1 hR hB1.bt.1 hg (k := 2) (by decide) hd.1 hd.2
    have hfx : FD (IX z ow1 15 16) s1.2 d1 := hd.2.mono (fun a ha => tx_ix ht hw1 ha)
    have hce : CE s1.1 d1 z ow1 3 y1.1.2.2.2.2 (inC R) (vC R) := ce_ix (s := (s1.1, s1.2)) hB1.bt.2 hK1 (hw1 3 (by decide) (by decide)) (by decide) (hfx.es (sh := s1.1)) (by omega)
    have hce2 : CE s1.1 d1 z ow1 3 y1.1.2.2.2.2 (inC (va_up R (1366 + 3 * g + 2) (-1))) (vC (va_up R (1366 + 3 * g + 2) (-1))) := by
      obtain ⟨a, z1, z2, z3, z4, z5, z6⟩ := hce
      refine ⟨a, z1, z2, z3, z4, z5, fun k hk => ?_⟩
      obtain ⟨g', h', q1, q2, q3⟩ := hk
      rw [nn_up (by omega)] at q1
      by_cases e : g' = g
      · subst e
        rw [nn_m1 va_up_s] at q2
        exact absurd q2 (Nat.not_lt_zero _)
      · rw [nn_up (by omega)] at q2
        have r := z6 k ⟨g', h', q1, q2, q3⟩
        refine ⟨r.1, r.2.trans ?_⟩
        unfold vC
        rw [va_up_n (by omega), va_up_n (by omega)]
    have qn := ci_new c1 g1 g2 g3 (hfx.mono (fun a ha => ix_mono ha (by omega) (by omega))) (hbt.bk hce2) (pb_congr c1.2.2.2.2.2.1 (va_up_n (by omega)) (fun j hj => va_up_n (by omega)))
    by_cases hm : R (1366 + 3 * g + 2) = -1
    · rw [if_pos hm, if_pos hm]
      refine rn_f (by decide) ?_
      unfold f_X11_lose_57
      refine rn_bind (k_answer hK1) (fun r hr => rn_some ?_)
      have q2 := ci_lg qn.1 hr.2
      exact ⟨hr.1, (f1.tr qn.2).tr q2.2, ow1, y1, q2.1⟩
    · rw [if_neg hm, if_neg hm]
      refine rn_t rfl ?_
      unfold f_X11_lose_57
      refine rn_bind (k_answer hK1) (fun r hr => rn_some ?_)
      have q2 := ci_lg qn.1 hr.2
      exact ⟨hr.1, (f1.tr qn.2).tr q2.2, ow1, y1, q2.1⟩
end GA
