/-! PAIRS of many: in order, then EXCHANGES -/
noncomputable def dm (R : Nat → Int32) (x y : Nat) : Nat := dd R (min x y) (max x y)
def mm (x y : Nat) : Nat × Nat := (min x y, max x y)
noncomputable def exC (R : Nat → Int32) (P : Nat → Nat × Nat) (i j : Nat) : Nat := if dm R (P i).1 (P j).1 + dm R (P i).2 (P j).2 < dm R (P i).1 (P i).2 + dm R (P j).1 (P j).2 then 1 else if dm R (P i).1 (P j).2 + dm R (P i).2 (P j).1 < dm R (P i).1 (P i).2 + dm R (P j).1 (P j).2 then 2 else 0
def exS (R : Nat → Int32) (n : Nat) (P : Nat → Nat × Nat) (i j : Nat) : Prop := i < j ∧ j < n ∧ exC R P i j ≠ 0
noncomputable def feI (R : Nat → Int32) (n : Nat) (P : Nat → Nat × Nat) : Nat × Nat := Classical.epsilon (fun q : Nat × Nat => exS R n P q.1 q.2 ∧ ∀ i' j', exS R n P i' j' → q.1 < i' ∨ (q.1 = i' ∧ q.2 ≤ j'))
noncomputable def exP (R : Nat → Int32) (P : Nat → Nat × Nat) (i j : Nat) : Nat → Nat × Nat := if exC R P i j = 1 then va_up (va_up P i (mm (P i).1 (P j).1)) j (mm (P i).2 (P j).2) else va_up (va_up P i (mm (P i).1 (P j).2)) j (mm (P i).2 (P j).1)
noncomputable def exN (R : Nat → Int32) (n : Nat) : Nat → (Nat → Nat × Nat) → (Nat → Nat × Nat)
  | 0, P => P
  | k + 1, P => @ite _ (∃ i j, exS R n P i j) (Classical.propDecidable _) (exN R n k (exP R P (feI R n P).1 (feI R n P).2)) P
noncomputable def P0 (R : Nat → Int32) (k : Nat) : Nat × Nat := (oC R (2 * k), oC R (2 * k + 1))
def PG (d : Dt) (a1 a2 : Nat) (P : Nat → Nat × Nat) (n : Nat) : Prop := ∀ k, k < n → d.1 a1 k = nI (P k).1 ∧ d.1 a2 k = nI (P k).2
def inO (R : Nat → Int32) (x : Nat) : Prop := ∃ i, i < (oddl R).length ∧ x = oC R i
def PO (R : Nat → Int32) (P : Nat → Nat × Nat) (n : Nat) : Prop := ∀ k, k < n → inO R (P k).1 ∧ inO R (P k).2
section EX
variable {Q : Dt → Prop} {sh : Sh} {d d0 d' : Dt} {z : Nat} {R K : Nat → Int32} {N i j k n x y : Nat} {P : Nat → Nat × Nat}
theorem inO_mm (hx : inO R x) (hy : inO R y) : inO R (mm x y).1 ∧ inO R (mm x y).2 := by
  unfold mm
  rcases Nat.le_total x y with h | h
  · rw [Nat.min_eq_left h, Nat.max_eq_right h]
    exact ⟨hx, hy⟩
  · rw [Nat.min_eq_right h, Nat.max_eq_left h]
    exact ⟨hy, hx⟩
theorem inO_lt (hW : WS R) (hN : WN R) (hx : inO R x) : x < nn R 0 := by
  obtain ⟨i, hi, rfl⟩ := hx
  exact (oddl_sort hW hN).1 i hi
theorem dm_le (hG : GF R) (hx : inO R x) (hy : inO R y) : dm R x y ≤ 600000 := by
  obtain ⟨i, hi, rfl⟩ := hx
  obtain ⟨j, hj, rfl⟩ := hy
  unfold dm
  rcases Nat.le_total (oC R i) (oC R j) with h | h
  · rw [Nat.min_eq_left h, Nat.max_eq_right h]
    exact hG i j hi hj
  · rw [Nat.min_eq_right h, Nat.max_eq_left h]
    exact hG j i hj hi
theorem feI_ok (h : ∃ i j, exS R n P i j) : exS R n P (feI R n P).1 (feI R n P).2 ∧ ∀ i' j', exS R n P i' j' → (feI R n P).1 < i' ∨ ((feI R n P).1 = i' ∧ (feI R n P).2 ≤ j') := by
  obtain ⟨i, j, hs⟩ := h
  obtain ⟨i0, ⟨j0, h0⟩, hi⟩ := least_ex (P := fun i => ∃ j, exS R n P i j) i i (Nat.le_refl _) ⟨j, hs⟩
  obtain ⟨j1, h1, hj⟩ := least_ex (P := fun j => exS R n P i0 j) j0 j0 (Nat.le_refl _) h0
  refine Classical.epsilon_spec (p := fun q : Nat × Nat => exS R n P q.1 q.2 ∧ ∀ i' j', exS R n P i' j' → q.1 < i' ∨ (q.1 = i' ∧ q.2 ≤ j')) ⟨(i0, j1), h1, fun i' j' h' => ?_⟩
  have q1 := hi i' ⟨j', h'⟩
  by_cases e : i0 = i'
  · subst e
    exact Or.inr ⟨rfl, hj j' h'⟩
  · exact Or.inl (by show i0 < i'; omega)
theorem feI_eq (h : exS R n P i j) (hl : ∀ i' j', exS R n P i' j' → i < i' ∨ (i = i' ∧ j ≤ j')) : feI R n P = (i, j) := by
  obtain ⟨h1, h2⟩ := feI_ok ⟨i, j, h⟩
  have a1 := h2 i j h
  have a2 := hl _ _ h1
  exact Prod.ext (by omega) (by omega)
theorem po_up {v : Nat × Nat} (h : PO R P n) (hv : inO R v.1 ∧ inO R v.2) : PO R (va_up P i v) n := fun k hk => by
  by_cases e : k = i
  · rw [e, va_up_s]
    exact hv
  · rw [va_up_n e]
    exact h k hk
theorem po_ex (h : PO R P n) (hi : i < n) (hj : j < n) : PO R (exP R P i j) n := by
  unfold exP
  split
  · exact po_up (po_up h (inO_mm (h i hi).1 (h j hj).1)) (inO_mm (h i hi).2 (h j hj).2)
  · exact po_up (po_up h (inO_mm (h i hi).1 (h j hj).2)) (inO_mm (h i hi).2 (h j hj).1)
theorem po_exN : ∀ (k : Nat) (P : Nat → Nat × Nat), PO R P n → PO R (exN R n k P) n
  | 0, P, h => h
  | k + 1, P, h => by
    unfold exN
    by_cases q : ∃ i j, exS R n P i j
    · rw [ite_p q]
      obtain ⟨⟨q1, q2, -⟩, -⟩ := feI_ok q
      exact po_exN k _ (po_ex h (by omega) q2)
    · rw [ite_n q]
      exact h
theorem pg_up {a1 a2 : Nat} {v : Nat × Nat} (h : PG d a1 a2 P n) (hne : a1 ≠ a2) : PG (wI (wI d a1 i (nI v.1)) a2 i (nI v.2)) a1 a2 (va_up P i v) n := fun k hk => by
  rw [wI_n hne, wI_s, wI_s, wI_n (fun e => hne e.symm)]
  by_cases e : k = i
  · rw [e, va_up_s, va_up_s, va_up_s]
    exact ⟨rfl, rfl⟩
  · rw [va_up_n e, va_up_n e, va_up_n e]
    exact h k hk
theorem m_btw (hK : KS sh z) (hN : WN R) (hW : WS R) (hG : GF R) (hR : RCx d z R) (hx : inO R x) (hy : inO R y) : f_X12_between N sh (z + 242) (nI x) (nI y) d = some (nI (dm R x y)) := by
  have h1 := inO_lt hW hN hx
  have h2 := inO_lt hW hN hy
  have h3 := dm_le hG hx hy
  unfold dm at h3 ⊢
  rcases Nat.le_total x y with h | h
  · rw [Nat.min_eq_left h, Nat.max_eq_right h] at h3 ⊢
    rw [(m_between hK hN hR h1 h2 h).1, Nat.min_eq_left (by omega)]
  · rw [Nat.min_eq_right h, Nat.max_eq_left h] at h3 ⊢
    rw [(m_between hK hN hR h2 h1 h).2, Nat.min_eq_left (by omega)]
/-- pairs of the reference, count and rows -/
def PRr (d : Dt) (z : Nat) (P : Nat → Nat × Nat) (n : Nat) : Prop := d.1 (z + 242) 21 = nI n ∧ PG d (z + 255) (z + 256) P n
def EXQ (z : Nat) (R : Nat → Int32) (n : Nat) (P : Nat → Nat × Nat) (d0 : Dt) (r : Int32 × Dt) : Prop := QF z d0 r.2 ∧ r.2.1 (z + 242) = d0.1 (z + 242) ∧ ((r.1 = 0 ∧ (¬ ∃ i j, exS R n P i j) ∧ PRr r.2 z P n) ∨ (r.1 = 1 ∧ (∃ i j, exS R n P i j) ∧ PRr r.2 z (exP R P (feI R n P).1 (feI R n P).2) n))
theorem ej_loop {k2 : Nat → Int32 → Dt → Option (Int32 × Dt)} (hK : KS sh z) (hN : WN R) (hW : WS R) (hG : GF R) (hR : RCx d z R) (hn : n ≤ 30) (hP : PRr d z P n) (hO : PO R P n) (hi : i < n) (hI : ∀ i' j', i' < i → ¬ exS R n P i' j') (hk : (∀ j', ¬ exS R n P i j') → Rn (k2 (z + 242) (nI (i + 1)) d) (EXQ z R n P d)) : ∀ (m j fu : Nat), j + m = n → m < fu → i < j → (∀ j', j' < j → ¬ exS R n P i j') → Rn (f_X12_isExchanged_14 N sh k2 fu (z + 242) (nI i) (nI j) d) (EXQ z R n P d)
  | 0, j, fu, hj, hf, hij, hl => by
    obtain ⟨fu, rfl⟩ : ∃ q, fu = q + 1 := ⟨fu - 1, by omega⟩
    show Rn (g_X12_isExchanged_14 N sh k2 (f_X12_isExchanged_14 N sh k2 fu) (z + 242) (nI i) (nI j) d) _
    unfold g_X12_isExchanged_14 f_X12_isExchanged_157
    refine r_gI hK (i := 242) (c := 12) rfl ?_
    rw [hP.1, nI_1]
    refine rn_t ((nI_leI (by omega) (by omega)).mpr (by omega)) ?_
    exact hk (fun j' h => hl j' (by have := h.2.1; omega) h)
  | m + 1, j, fu, hj, hf, hij, hl => by
    obtain ⟨fu, rfl⟩ : ∃ q, fu = q + 1 := ⟨fu - 1, by omega⟩
    have ih := ej_loop hK hN hW hG hR hn hP hO hi hI hk m (j + 1) fu (by omega) (by omega) (by omega)
    show Rn (g_X12_isExchanged_14 N sh k2 (f_X12_isExchanged_14 N sh k2 fu) (z + 242) (nI i) (nI j) d) _
    have n0 := hN.1.2
    have hjn : j < n := by omega
    have h5 := ks_a hK 255 0 30 rfl
    have h6 := ks_a hK 256 0 30 rfl
    obtain ⟨pi1, pi2⟩ := hP.2 i hi
    obtain ⟨pj1, pj2⟩ := hP.2 j hjn
    obtain ⟨oi1, oi2⟩ := hO i hi
    obtain ⟨oj1, oj2⟩ := hO j hjn
    have lt1 := inO_lt hW hN oi1
    have lt2 := inO_lt hW hN oi2
    have lt3 := inO_lt hW hN oj1
    have lt4 := inO_lt hW hN oj2
    have b1 := dm_le hG oi1 oi2
    have b2 := dm_le hG oj1 oj2
    have b3 := dm_le hG oi1 oj1
    have b4 := dm_le hG oi2 oj2
    have b5 := dm_le hG oi1 oj2
    have b6 := dm_le hG oi2 oj1
    have hfe : exC R P i j ≠ 0 → feI R n P = (i, j) := fun h => feI_eq ⟨hij, hjn, h⟩ (fun i' j' h' => by
      rcases Nat.lt_trichotomy i' i with q | q | q
      · exact absurd h' (hI i' j' q)
      · subst q
        rcases Nat.lt_or_ge j' j with q2 | q2
        · exact absurd h' (hl j' q2)
        · exact Or.inr ⟨rfl, q2⟩
      · exact Or.inl q)
    unfold g_X12_isExchanged_14
    refine r_gI hK (i := 242) (c := 12) rfl ?_
    rw [hP.1]
    refine rn_f (nI_ge hjn (by omega)) ?_
    refine r_gP hK 242 12 22 255 rfl (by decide) ?_
    refine rn_eq (q_aT h5 i rfl (by omega) (by decide)) ?_
    refine r_gP hK 242 12 23 256 rfl (by decide) ?_
    refine rn_eq (q_aT h6 i rfl (by omega) (by decide)) ?_
    refine r_gP hK 242 12 22 255 rfl (by decide) ?_
    refine rn_eq (q_aT h5 j rfl (by omega) (by decide)) ?_
    refine r_gP hK 242 12 23 256 rfl (by decide) ?_
    refine rn_eq (q_aT h6 j rfl (by omega) (by decide)) ?_
    rw [pi1, pi2, pj1, pj2]
    refine rn_eq (m_btw hK hN hW hG hR oi1 oi2) ?_
    refine rn_eq (m_btw hK hN hW hG hR oj1 oj2) ?_
    refine rn_eq (m_btw hK hN hW hG hR oi1 oj1) ?_
    refine rn_eq (m_btw hK hN hW hG hR oi2 oj2) ?_
    rw [nI_add, nI_add]
    have done : ∀ (u1 u2 : Nat × Nat) (d9 : Dt), exC R P i j ≠ 0 → exP R P i j = va_up (va_up P i u1) j u2 → d9 = wI (wI (wI (wI d (z + 255) i (nI u1.1)) (z + 256) i (nI u1.2)) (z + 255) j (nI u2.1)) (z + 256) j (nI u2.2) → EXQ z R n P d (1, d9) := fun u1 u2 d9 hc he hd9 => by
      have e242 : d9.1 (z + 242) = d.1 (z + 242) := by
        rw [hd9, wI_n (by omega), wI_n (by omega), wI_n (by omega), wI_n (by omega)]
      refine ⟨⟨by rw [hd9]; rfl, fun a q1 q2 q3 q4 => ?_, fun k _ _ => by rw [e242]⟩, e242, Or.inr ⟨rfl, ⟨i, j, hij, hjn, hc⟩, ?_, ?_⟩⟩
      · rw [hd9]
        show (wI (wI (wI (wI d (z + 255) i (nI u1.1)) (z + 256) i (nI u1.2)) (z + 255) j (nI u2.1)) (z + 256) j (nI u2.2)).1 a = d.1 a
        rw [wI_n q4, wI_n q3, wI_n q4, wI_n q3]
      · show d9.1 (z + 242) 21 = nI n
        rw [e242]
        exact hP.1
      · show PG d9 (z + 255) (z + 256) _ n
        rw [hfe hc]
        show PG d9 (z + 255) (z + 256) (exP R P i j) n
        rw [he, hd9]
        exact pg_up (pg_up hP.2 (by omega)) (by omega)
    refine rn_ite (fun q1 => ?_) (fun q1 => ?_)
    · have q1 := (nI_leI (by omega) (by omega)).mp q1
      refine rn_eq (m_btw hK hN hW hG hR oi1 oj2) ?_
      refine rn_eq (m_btw hK hN hW hG hR oi2 oj1) ?_
      rw [nI_add]
      refine rn_ite (fun q2 => ?_) (fun q2 => ?_)
      · have q2 := (nI_leI (by omega) (by omega)).mp q2
        rw [nI_1]
        refine ih (fun j' hj' h => ?_)
        by_cases e : j' = j
        · subst e
          refine h.2.2 ?_
          unfold exC
          rw [if_neg (by omega), if_neg (by omega)]
        · exact hl j' (by omega) h
      · have q2 : ¬ dm R (P i).1 (P i).2 + dm R (P j).1 (P j).2 ≤ dm R (P i).1 (P j).2 + dm R (P i).2 (P j).1 := fun r => q2 ((nI_leI (by omega) (by omega)).mpr r)
        have ec : exC R P i j = 2 := by
          unfold exC
          rw [if_neg (by omega), if_pos (by omega)]
        unfold f_X12_isExchanged_132
        refine rn_eq (m_pairsUp hK (by omega) (by omega) (by omega)) ?_
        refine rn_eq (m_pairsUp hK (by omega) (by omega) (by omega)) ?_
        refine rn_some (done (mm (P i).1 (P j).2) (mm (P i).2 (P j).1) _ (by rw [ec]; decide) ?_ rfl)
        unfold exP
        rw [ec, if_neg (by decide)]
    · have q1 : ¬ dm R (P i).1 (P i).2 + dm R (P j).1 (P j).2 ≤ dm R (P i).1 (P j).1 + dm R (P i).2 (P j).2 := fun r => q1 ((nI_leI (by omega) (by omega)).mpr r)
      have ec : exC R P i j = 1 := by
        unfold exC
        rw [if_pos (by omega)]
      unfold f_X12_isExchanged_92
      refine rn_eq (m_pairsUp hK (by omega) (by omega) (by omega)) ?_
      refine rn_eq (m_pairsUp hK (by omega) (by omega) (by omega)) ?_
      refine rn_some (done (mm (P i).1 (P j).1) (mm (P i).2 (P j).2) _ (by rw [ec]; decide) ?_ rfl)
      unfold exP
      rw [ec, if_pos rfl]
theorem ei_loop (hN1 : 200 ≤ N) (hK : KS sh z) (hN : WN R) (hW : WS R) (hG : GF R) (hR : RCx d z R) (hn : n ≤ 30) (hP : PRr d z P n) (hO : PO R P n) : ∀ (m i fu : Nat), i + m = n → m < fu → (∀ i' j', i' < i → ¬ exS R n P i' j') → Rn (f_X12_isExchanged_2 N sh fu (z + 242) (nI i) d) (EXQ z R n P d)
  | 0, i, fu, hi, hf, hI => by
    obtain ⟨fu, rfl⟩ : ∃ q, fu = q + 1 := ⟨fu - 1, by omega⟩
    show Rn (g_X12_isExchanged_2 N sh (f_X12_isExchanged_2 N sh fu) (z + 242) (nI i) d) _
    unfold g_X12_isExchanged_2
    refine r_gI hK (i := 242) (c := 12) rfl ?_
    rw [hP.1]
    refine rn_t ((nI_leI (by omega) (by omega)).mpr (by omega)) ?_
    exact rn_some ⟨QF.rf, rfl, Or.inl ⟨rfl, fun ⟨i', j', h⟩ => hI i' j' (by have := h.1; have := h.2.1; omega) h, hP⟩⟩
  | m + 1, i, fu, hi, hf, hI => by
    obtain ⟨fu, rfl⟩ : ∃ q, fu = q + 1 := ⟨fu - 1, by omega⟩
    have ih := ei_loop hN1 hK hN hW hG hR hn hP hO m (i + 1) fu (by omega) (by omega)
    show Rn (g_X12_isExchanged_2 N sh (f_X12_isExchanged_2 N sh fu) (z + 242) (nI i) d) _
    unfold g_X12_isExchanged_2
    refine r_gI hK (i := 242) (c := 12) rfl ?_
    rw [hP.1, nI_1]
    refine rn_f (nI_ge (by omega) (by omega)) ?_
    refine ej_loop hK hN hW hG hR hn hP hO (by omega) hI (fun hno => ih (fun i' j' hi' => ?_)) (n - (i + 1)) (i + 1) N (by omega) (by omega) (by omega) (fun j' hj' h => by have := h.1; omega)
    by_cases e : i' = i
    · subst e
      exact hno j'
    · exact hI i' j' (by omega)
theorem m_isExchanged (hN1 : 200 ≤ N) (hK : KS sh z) (hN : WN R) (hW : WS R) (hG : GF R) (hR : RCx d z R) (hn : n ≤ 30) (hP : PRr d z P n) (hO : PO R P n) : Rn (f_X12_isExchanged N sh (z + 242) d) (EXQ z R n P d) := by
  unfold f_X12_isExchanged
  refine rn_t (ks_o hK 242 12 rfl) ?_
  exact ei_loop hN1 hK hN hW hG hR hn hP hO n 0 N (by omega) (by omega) (fun i' j' h => absurd h (Nat.not_lt_zero i'))
theorem ex_loop (hN1 : 2000 ≤ N) (hK : KS sh z) (hN : WN R) (hW : WS R) (hG : GF R) (hR : RCx d0 z R) (hn : n ≤ 30) : ∀ (m k fu : Nat) (d : Dt) (P : Nat → Nat × Nat), k + m = 1000 → m < fu → QF z d0 d → d.1 (z + 242) 20 = nI k → PRr d z P n → PO R P n → Rn (f_X12_pairsInOrder_48 N sh fu (z + 242) d) (fun d' => QF z d0 d' ∧ PRr d' z (exN R n m P) n)
  | 0, k, fu, d, P, hk, hf, hM, h20, hP, hO => by
    obtain ⟨fu, rfl⟩ : ∃ q, fu = q + 1 := ⟨fu - 1, by omega⟩
    show Rn (g_X12_pairsInOrder_48 N sh (f_X12_pairsInOrder_48 N sh fu) (z + 242) d) _
    unfold g_X12_pairsInOrder_48
    refine r_gI hK (i := 242) (c := 12) rfl ?_
    rw [h20]
    refine rn_t ((nI_leI (a := 1000) (by omega) (by omega)).mpr (by omega)) ?_
    exact rn_some ⟨hM, hP⟩
  | m + 1, k, fu, d, P, hk, hf, hM, h20, hP, hO => by
    obtain ⟨fu, rfl⟩ : ∃ q, fu = q + 1 := ⟨fu - 1, by omega⟩
    have ih := ex_loop hN1 hK hN hW hG hR hn m (k + 1) fu
    show Rn (g_X12_pairsInOrder_48 N sh (f_X12_pairsInOrder_48 N sh fu) (z + 242) d) _
    unfold g_X12_pairsInOrder_48
    refine r_gI hK (i := 242) (c := 12) rfl ?_
    rw [h20]
    refine rn_f (nI_ge (b := 1000) (by omega) (by decide)) ?_
    refine rn_bind (m_isExchanged (by omega) hK hN hW hG (hM.rc hR) hn hP hO) (fun r hr => ?_)
    obtain ⟨x1, x2, x3⟩ := hr
    unfold exN
    rcases x3 with ⟨e, q, hP2⟩ | ⟨e, q, hP2⟩
    · refine rn_t e ?_
      rw [ite_n q]
      exact rn_some ⟨hM.tr x1, hP2⟩
    · refine rn_f (by rw [e]; decide) ?_
      rw [ite_p q]
      obtain ⟨⟨q1, q2, -⟩, -⟩ := feI_ok q
      refine r_gI hK (i := 242) (c := 12) rfl ?_
      refine r_pI hK (i := 242) (c := 12) rfl ?_
      rw [x2, h20, nI_1]
      refine ih _ _ (by omega) (by omega) ((hM.tr x1).tr ⟨rfl, fun a p1 p2 p3 p4 => wI_n p1, fun j p1 p2 => by rw [wI_s, va_up_n p1]⟩) (by rw [wI_s, va_up_s]) ⟨?_, fun x hx => ?_⟩ (po_ex hO (by omega) q2)
      · rw [wI_s, va_up_n (by decide)]
        exact hP2.1
      · rw [wI_n (by omega), wI_n (by omega)]
        exact hP2.2 x hx
theorem io_loop (hN1 : 2000 ≤ N) (hK : KS sh z) (hN : WN R) (hW : WS R) (hG : GF R) (hR : RCx d0 z R) (hO : ODr d0 z R) (hev : (oddl R).length = 2 * n) (hn : n ≤ 30) : ∀ (m i fu : Nat) (d : Dt), i + m = n → m < fu → QF z d0 d → d.1 (z + 242) 20 = 0 → PRr d z (P0 R) i → Rn (f_X12_pairsInOrder_2 N sh fu (z + 242) (nI (2 * i)) d) (fun d' => QF z d0 d' ∧ PRr d' z (exN R n 1000 (P0 R)) n)
  | 0, i, fu, d, hi, hf, hM, h20, hP => by
    obtain ⟨fu, rfl⟩ : ∃ q, fu = q + 1 := ⟨fu - 1, by omega⟩
    show Rn (g_X12_pairsInOrder_2 N sh (f_X12_pairsInOrder_2 N sh fu) (z + 242) (nI (2 * i)) d) _
    unfold g_X12_pairsInOrder_2
    refine r_gI hK (i := 242) (c := 12) rfl ?_
    rw [(hM.od hO).1]
    refine rn_t ((nI_leI (by omega) (by omega)).mpr (by omega)) ?_
    have e : i = n := by omega
    subst e
    refine ex_loop hN1 hK hN hW hG hR hn 1000 0 N d (P0 R) (by omega) (by omega) hM h20 hP (fun k hk => ⟨⟨2 * k, by omega, rfl⟩, ⟨2 * k + 1, by omega, rfl⟩⟩)
  | m + 1, i, fu, d, hi, hf, hM, h20, hP => by
    obtain ⟨fu, rfl⟩ : ∃ q, fu = q + 1 := ⟨fu - 1, by omega⟩
    have ih := io_loop hN1 hK hN hW hG hR hO hev hn m (i + 1) fu
    show Rn (g_X12_pairsInOrder_2 N sh (f_X12_pairsInOrder_2 N sh fu) (z + 242) (nI (2 * i)) d) _
    have n0 := hN.1.2
    have hOd := hM.od hO
    have srt := oddl_sort hW hN
    have s1 := srt.1 (2 * i) (by omega)
    have s2 := srt.1 (2 * i + 1) (by omega)
    have s3 := srt.2 (2 * i) (2 * i + 1) (by omega) (by omega)
    unfold g_X12_pairsInOrder_2
    refine r_gI hK (i := 242) (c := 12) rfl ?_
    rw [hOd.1]
    refine rn_f (nI_ge (by omega) (by omega)) ?_
    refine r_gI hK (i := 242) (c := 12) rfl ?_
    refine r_gP hK 242 12 15 252 rfl (by decide) ?_
    refine rn_eq (q_aT (ks_a hK 252 0 60 rfl) (2 * i) rfl (by omega) (by decide)) ?_
    refine r_gP hK 242 12 15 252 rfl (by decide) ?_
    refine rn_eq (q_aT (ks_a hK 252 0 60 rfl) (2 * i + 1) (nI_1 _) (by omega) (by decide)) ?_
    rw [hOd.2 _ (by omega), hOd.2 _ (by omega), hP.1]
    refine rn_eq (m_pairsUp hK (by omega) (by omega) (by omega)) ?_
    rw [Nat.min_eq_left (by omega), Nat.max_eq_right (by omega)]
    refine r_gI hK (i := 242) (c := 12) rfl ?_
    refine r_pI hK (i := 242) (c := 12) rfl ?_
    have e21 : ∀ x y, (wI (wI d (z + 255) i x) (z + 256) i y).1 (z + 242) = d.1 (z + 242) := fun x y => by
      rw [wI_n (by omega), wI_n (by omega)]
    rw [e21, hP.1, nI_1, show nI (2 * i) + 2 = nI (2 * (i + 1)) from nI_add (2 * i) 2]
    refine ih _ (by omega) (by omega) (hM.tr ⟨rfl, fun a q1 q2 q3 q4 => by rw [wI_n q1, wI_n q4, wI_n q3], fun j q1 q2 => by rw [wI_s, va_up_n q2, e21]⟩) ?_ ⟨?_, fun x hx => ?_⟩
    · rw [wI_s, va_up_n (by decide), e21]
      exact h20
    · rw [wI_s, va_up_s]
    · rw [wI_n (by omega), wI_n (by omega), wI_s, wI_n (by omega), wI_s, wI_n (by omega)]
      by_cases e : x = i
      · rw [e, va_up_s, va_up_s]
        exact ⟨rfl, rfl⟩
      · rw [va_up_n e, va_up_n e]
        exact hP.2 x (by omega)
end EX
