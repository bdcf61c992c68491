/-! who owns a cell: rows belong to the object that holds them, static cells to themselves -/
def onr (z : Nat) (ow : Nat → Nat) (a : Nat) : Nat := if 1 ≤ ow a then (ow a - 1) / 16 else if z ≤ a ∧ a < z + 264 then a - z else 1000
def IX (z : Nat) (ow : Nat → Nat) (lo hi : Nat) : Nat → Prop := fun a => lo ≤ onr z ow a ∧ onr z ow a ≤ hi
section ON
variable {z : Nat} {ow : Nat → Nat} {a i o lo hi : Nat}
theorem onr_s (h : ow (z + i) = 0) (hi : i < 264) : onr z ow (z + i) = i := by
  unfold onr
  rw [h, if_neg (by decide), if_pos ⟨by omega, by omega⟩]
  omega
theorem onr_r {k : Nat} (h : ow a = 16 * o + k + 1) (hk : k < 16) : onr z ow a = o := by
  unfold onr
  rw [h, if_pos (by omega)]
  omega
theorem tx_ix {nc : Nat} (hk : tck o nc = true) (hw : OWS ow z) (h : TX z ow o a) : IX z ow o (o + 1) a := by
  have h1 := tck_o hk hw
  have h2 := tck_n hk
  rcases h with rfl | rfl | h
  · unfold IX
    rw [onr_s h1.1 (by omega)]
    omega
  · unfold IX
    rw [onr_s h1.2 (by omega)]
    omega
  · unfold IX onr
    rw [if_pos h.1]
    omega
theorem ix_mono {lo2 hi2 : Nat} (h : IX z ow lo hi a) (h1 : lo2 ≤ lo) (h2 : hi ≤ hi2) : IX z ow lo2 hi2 a := ⟨Nat.le_trans h1 h.1, Nat.le_trans h.2 h2⟩
theorem ix_old {s s' : AS} {X : Nat → Prop} {ow' : Nat → Nat} (he : ES X s ow s' ow') (ha : a < s.1.1.2.1) (h : IX z ow' lo hi a) : IX z ow lo hi a := by
  have q := (he.2.2 a ha).2.2.2.1
  unfold IX onr at h ⊢
  rw [q] at h
  exact h
/-- a table is left by what touches others -/
theorem tb_ix {s s' : AS} {ow' : Nat → Nat} {nc S : Nat} {V : Nat → Nat → Int32} {L : Nat → Nat} (h : TB s.1 s.2 z ow o nc S V L) (hK : KS s.1 z) (hw : OWS ow z) (hk : tck o nc = true) (he : ES (IX z ow lo hi) s ow s' ow') (hx : hi < o ∨ o + 1 < lo) : TB s'.1 s'.2 z ow' o nc S V L := by
  have h1 := tck_o hk hw
  have h2 := tck_n hk
  refine tb_es h hK hk he (fun q => ?_) (fun q => ?_) (fun a ha hb q => ?_)
  · unfold IX at q
    rw [onr_s h1.1 (by omega)] at q
    omega
  · unfold IX at q
    rw [onr_s h1.2 (by omega)] at q
    omega
  · unfold IX onr at q
    rw [if_pos ha] at q
    omega
theorem ce_ix {s s' : AS} {ow' : Nat → Nat} {b Lc : Nat} {P : Nat → Prop} {W : Nat → Int64} (h : CE s.1 s.2 z ow b Lc P W) (hK : KS s.1 z) (hb : ow (z + b) = 0) (hb2 : b < 264) (he : ES (IX z ow lo hi) s ow s' ow') (hx : hi < b ∨ b < lo) : CE s'.1 s'.2 z ow' b Lc P W := by
  obtain ⟨a, h1, h2, h3, h4, h5, h6⟩ := h
  have hz := hK.2.1
  have hlt : a < s.1.1.2.1 := h3.2.1
  have q := he.2.2 a hlt
  have e1 := he.1
  have e2 := he.2.1
  have hX : ¬ IX z ow lo hi a := fun q => by
    unfold IX at q
    rw [onr_r (o := b) (k := 0) h2 (by omega)] at q
    omega
  have hX2 : ¬ IX z ow lo hi (z + b) := fun q => by
    unfold IX at q
    rw [onr_s hb hb2] at q
    omega
  refine ⟨a, ?_, by rw [q.2.2.2.1]; exact h2, ⟨by rw [e1]; exact h3.1, by omega, by rw [q.1]; exact h3.2.2⟩, by rw [q.2.1]; exact h4, h5, fun k hk => ⟨(h6 k hk).1, ?_⟩⟩
  · rw [((he.2.2 (z + b) (by omega)).2.2.2.2 hX2).2.2.2]
    exact h1
  · rw [(q.2.2.2.2 hX).2.1]
    exact (h6 k hk).2
end ON
/-! the state as the reference holds it, an array R; the books' columns out of it -/
def nn (R : Nat → Int32) (k : Nat) : Nat := (R k).toNatClampNeg
def vS (R : Nat → Int32) (c i : Nat) : Int32 := R (16 + 9 * i + c)
def vG (R : Nat → Int32) (c i : Nat) : Int32 := R (1366 + 3 * i + c)
def vP (R : Nat → Int32) (c i : Nat) : Int32 := if c = 0 then R (9426 + 13 * i + 6) else if c = 1 then R (9426 + 13 * i + 7) else if c = 2 then R (9426 + 13 * i + 8) else if c = 3 then R (9426 + 13 * i + 9) else if c = 4 then R (9426 + 13 * i + 10) else if c = 5 then R (9426 + 13 * i + 1) else if c = 6 then (if R (9426 + 13 * i + 2) = 1 then -1 else R (9426 + 13 * i)) else if c = 7 then R (9426 + 13 * i + 11) else R (9426 + 13 * i + 12)
def vD (R : Nat → Int32) (c i : Nat) : Int32 := if c = 0 then R (9642 + 3 * i) else if c = 1 then R (9642 + 3 * i + 1) else if c = 2 then (if R (9642 + 3 * i + 1) = R (16 + 9 * nn R (9642 + 3 * i) + 7) then R (16 + 9 * nn R (9642 + 3 * i) + 8) else R (16 + 9 * nn R (9642 + 3 * i) + 7)) else R (9642 + 3 * i + 2)
def vC (R : Nat → Int32) (k : Nat) : Int64 := if R (5426 + k) = 1 then 1099511627776 else if R (5426 + k) = 2 then 2199023255552 else (R (1426 + k)).toInt64
def inC (R : Nat → Int32) (k : Nat) : Prop := ∃ g h, g < nn R 2 ∧ h < nn R (1366 + 3 * g + 2) ∧ k = 200 * g + h
/-- how many there are, within the document's limits -/
def WN (R : Nat → Int32) : Prop := (R 0 = nI (nn R 0) ∧ nn R 0 ≤ 60) ∧ (R 1 = nI (nn R 1) ∧ nn R 1 ≤ 150) ∧ (R 2 = nI (nn R 2) ∧ nn R 2 ≤ 20) ∧ (R 3 = nI (nn R 3) ∧ nn R 3 ≤ 12) ∧ (R 4 = nI (nn R 4) ∧ nn R 4 ≤ 2000)
def WG (R : Nat → Int32) : Prop := ∀ g, g < nn R 2 → (R (1366 + 3 * g + 2) = -1 ∨ R (1366 + 3 * g + 2) = nI (nn R (1366 + 3 * g + 2))) ∧ nn R (1366 + 3 * g + 2) ≤ 200
abbrev BL : Type := (Nat → Nat) × (Nat → Nat) × (Nat → Nat) × (Nat → Nat) × Nat
def QB (q : BL) : Prop := (∀ c, c < 9 → q.1 c ≤ 300) ∧ (∀ c, c < 3 → q.2.1 c ≤ 40) ∧ (∀ c, c < 9 → q.2.2.1 c ≤ 24) ∧ (∀ c, c < 4 → q.2.2.2.1 c ≤ 4000) ∧ q.2.2.2.2 ≤ 8000
def pot (q : BL) : Nat := smN q.1 9 + smN q.2.1 3 + smN q.2.2.1 9 + smN q.2.2.2.1 4 + q.2.2.2.2
/-- the books at z + b hold R; the room of their rows is q -/
def BK (sh : Sh) (d : Dt) (z : Nat) (ow : Nat → Nat) (b : Nat) (R : Nat → Int32) (q : BL) : Prop :=
  d.1 (z + b) 0 = R 0 ∧ TB sh d z ow (b + 1) 9 (nn R 1) (vS R) q.1 ∧ TB sh d z ow (b + 12) 3 (nn R 2) (vG R) q.2.1 ∧ TB sh d z ow (b + 17) 9 (nn R 3) (vP R) q.2.2.1 ∧ TB sh d z ow (b + 28) 4 (nn R 4) (vD R) q.2.2.2.1 ∧ CE sh d z ow b q.2.2.2.2 (inC R) (vC R) ∧ nn R 2 * 200 ≤ q.2.2.2.2 ∧ QB q
def bck (b : Nat) : Prop := b = 3 ∨ b = 40
section BKS
variable {z : Nat} {ow : Nat → Nat} {b : Nat} {R : Nat → Int32} {q : BL} {N : Nat}
theorem bck_t (h : bck b) : tck (b + 1) 9 = true ∧ tck (b + 12) 3 = true ∧ tck (b + 17) 9 = true ∧ tck (b + 28) 4 = true := by
  rcases h with rfl | rfl <;> decide
theorem bck_o (h : bck b) : (Nat.blt b 264 && Nat.beq (cTl.getD b 99) (10 + 1)) = true := by
  rcases h with rfl | rfl <;> decide
theorem bck_p (h : bck b) : (b, 1, b + 1) ∈ cPt ∧ (b, 2, b + 12) ∈ cPt ∧ (b, 3, b + 17) ∈ cPt ∧ (b, 4, b + 28) ∈ cPt ∧ (b, 5, b + 34) ∈ cPt ∧ (b, 6, b + 35) ∈ cPt := by
  rcases h with rfl | rfl <;> decide
theorem bck_w (h : bck b) (hw : OWS ow z) : ow (z + b) = 0 ∧ b < 264 := by
  rcases h with rfl | rfl
  · exact ⟨hw 3 (by decide) (by decide), by decide⟩
  · exact ⟨hw 40 (by decide) (by decide), by decide⟩
/-- the books are left by what touches others -/
theorem bk_ix {s s' : AS} {ow' : Nat → Nat} {lo hi : Nat} (h : BK s.1 s.2 z ow b R q) (hb : bck b) (hK : KS s.1 z) (hw : OWS ow z) (he : ES (IX z ow lo hi) s ow s' ow') (hx : hi < b ∨ b + 36 < lo) : BK s'.1 s'.2 z ow' b R q := by
  obtain ⟨h0, h1, h2, h3, h4, h5, h6, h7⟩ := h
  have hw2 := bck_w hb hw
  have ht := bck_t hb
  have hz := hK.2.1
  have hX : ¬ IX z ow lo hi (z + b) := fun q => by
    unfold IX at q
    rw [onr_s hw2.1 hw2.2] at q
    omega
  refine ⟨?_, tb_ix h1 hK hw ht.1 he (by omega), tb_ix h2 hK hw ht.2.1 he (by omega), tb_ix h3 hK hw ht.2.2.1 he (by omega), tb_ix h4 hK hw ht.2.2.2 he (by omega), ce_ix h5 hK hw2.1 hw2.2 he (by omega), h6, h7⟩
  rw [((he.2.2 (z + b) (by omega)).2.2.2.2 hX).1]
  exact h0
theorem widenCells {s : AS} {Lc : Nat} {P : Nat → Prop} {W : Nat → Int64} {G : Nat} (hb : bck b) (hG : G ≤ 20) (hK : KS s.1 z) (hw : OWS ow z) (hs : s.2.1 (z + (b + 12)) 1 = nI G) (hc : CE s.1 s.2 z ow b Lc P W) (hLc : Lc ≤ 8000) : Rn (f_X1_widenCells N (z + b) s) (fun s' => ∃ ow' Lc', ES (IX z ow b b) s ow s' ow' ∧ CE s'.1 s'.2 z ow' b Lc' P W ∧ G * 200 ≤ Lc' ∧ Lc' ≤ 8000 ∧ s'.1.1.2.2 + 2 * Lc ≤ s.1.1.2.2 + 2 * Lc' ∧ s'.1.1.2.1 + Lc ≤ s.1.1.2.1 + Lc' ∧ s'.2.1 (z + b) = s.2.1 (z + b)) := by
  have hw2 := bck_w hb hw
  have hp := bck_p hb
  have ht := bck_t hb
  have hz := hK.2.1
  have hz1 := hK.1
  obtain ⟨a, h1, h2, h3, h4, h5, h6⟩ := id hc
  have hlt : a < s.1.1.2.1 := h3.2.1
  unfold f_X1_widenCells
  refine rn_t (ks_o hK b 1 (bck_o hb)) ?_
  refine r_gP hK b 1 2 (b + 12) (bck_o hb) hp.2.1 ?_
  refine r_gI hK (tck_1 ht.2.1) ?_
  rw [hs]
  refine r_gQ hK a h1 (bck_o hb) ?_
  refine rn_eq (q_len ⟨h3, h4⟩ (by decide)) ?_
  have e1 : nI G * (200 : Int32) = nI (G * 200) := pk_mul G 200
  rw [e1]
  by_cases hle : G * 200 ≤ Lc
  · refine rn_t (nI_le hle (by omega)) ?_
    exact rn_some ⟨ow, Lc, ES.rf, hc, hle, hLc, Nat.le_refl _, Nat.le_refl _, rfl⟩
  · refine rn_f (nI_ge (by omega) (by omega)) ?_
    refine r_gQ hK a h1 (bck_o hb) ?_
    refine r_gQ hK a h1 (bck_o hb) ?_
    refine rn_eq (q_len ⟨h3, h4⟩ (by decide)) ?_
    have e2 : o_max (nI (G * 200)) ((2 : Int32) * nI Lc) = nI (max (G * 200) (2 * Lc)) := by
      rw [show (2 : Int32) = nI 2 from rfl, pk_mul, o_max_nI (by omega) (by omega)]
    rw [e2]
    have hm1 : max (G * 200) (2 * Lc) ≤ 8000 := by omega
    have hm2 : Lc < max (G * 200) (2 * Lc) ∧ 2 * Lc ≤ max (G * 200) (2 * Lc) ∧ G * 200 ≤ max (G * 200) (2 * Lc) := by omega
    refine rn_eq (copyOfJ_eq (s := s) ⟨h3, h4⟩ (by omega) (by omega) (by omega)) ?_
    generalize max (G * 200) (2 * Lc) = mm at hm1 hm2 ⊢
    have hes := push_es (s := s) (t := 1) (n := mm) (m := mm) (X := IX z ow b b) (ow := ow) (q := 16 * b + 1)
    have hK1 : KS (push s 1 mm mm).1 z := KS.es hK hes
    have hN1 := push_N (s := s) (t := 1) (n := mm) (m := mm) (by omega)
    unfold f_X1_widenCells_40
    refine r_pQ hK1 (bck_o hb) ?_
    refine rn_some ⟨va_up ow s.1.1.2.1 (16 * b + 1), mm, ⟨hes.1, hes.2.1, fun c hc9 => ?_⟩, ⟨s.1.1.2.1, ?_, va_up_s, hN1.1, hN1.2, by omega, fun k hk => ?_⟩, hm2.2.2, hm1, ?_, ?_, va_up_n (by omega)⟩
    · have r := hes.2.2 c hc9
      refine ⟨r.1, r.2.1, r.2.2.1, r.2.2.2.1, fun hX => ?_⟩
      have r2 := r.2.2.2.2 hX
      refine ⟨r2.1, ?_, r2.2.2.1, ?_⟩
      · show va_up (push s 1 mm mm).2.2.1 s.1.1.2.1 _ c = _
        rw [va_up_n (by omega)]
        exact r2.2.1
      · show up2 (push s 1 mm mm).2.2.2.2 (z + b) 7 _ c = _
        rw [up2_n (fun e => hX (by rw [e]; unfold IX; rw [onr_s hw2.1 hw2.2]; omega))]
        exact r2.2.2.2
    · show up2 _ (z + b) 7 (some s.1.1.2.1) (z + b) 7 = _
      rw [up2_s]
      exact va_up_s
    · have r := h6 k hk
      refine ⟨by omega, ?_⟩
      show va_up (push s 1 mm mm).2.2.1 s.1.1.2.1 (fun k => if k < min Lc mm then s.2.2.1 a k else 0) s.1.1.2.1 k = _
      rw [va_up_s, if_pos (by omega)]
      exact r.2
    · show s.1.1.2.2 + mm + 2 * Lc ≤ _
      omega
    · show s.1.1.2.1 + 1 + Lc ≤ _
      omega
end BKS
