/-! PAIRS in order, and their EXCHANGES, of the class -/
section KEX
variable {s s' : AS} {sh : Sh} {d d0 d' : Dt} {z : Nat} {ow ow' : Nat → Nat} {R K : Nat → Int32} {u : Bool} {y : YL} {N n m k i j c p q x e v a b S cc : Nat} {P : Nat → Nat × Nat}
theorem edge_sy (hB : BW R) (h : edge R i a b) : edge R i b a := by
  obtain ⟨h1, h2, h3⟩ := h
  have h5 := hB i h1 h2
  rcases h3 with ⟨q1, q2⟩ | ⟨-, q1, q2⟩
  · exact ⟨h1, h2, Or.inr ⟨h5, q2, q1⟩⟩
  · exact ⟨h1, h2, Or.inl ⟨q2, q1⟩⟩
theorem wk_snoc (hx : edge R i b c) (hc : c < nn R 0) : ∀ (l : List Nat) (a : Nat), wk R l a b → wk R (l ++ [i]) a c ∧ wln R (l ++ [i]) = wln R l + sln R i
  | [], a, h => by
    have h : a = b := h
    subst h
    exact ⟨⟨c, hc, hx, rfl⟩, by show sln R i + 0 = 0 + sln R i; omega⟩
  | t :: l, a, h => by
    obtain ⟨w, h1, h2, h3⟩ := h
    obtain ⟨g1, g2⟩ := wk_snoc hx hc l w h3
    exact ⟨⟨w, h1, h2, g1⟩, by show sln R t + wln R (l ++ [i]) = sln R t + wln R l + sln R i; omega⟩
theorem wk_sy (hB : BW R) : ∀ (l : List Nat) (a b : Nat), a < nn R 0 → wk R l a b → ∃ l', wk R l' b a ∧ wln R l' = wln R l
  | [], a, b, _, h => ⟨[], (show a = b from h).symm, rfl⟩
  | t :: l, a, b, ha, h => by
    obtain ⟨w, h1, h2, h3⟩ := h
    obtain ⟨l', g1, g2⟩ := wk_sy hB l w b h1 h3
    obtain ⟨e1, e2⟩ := wk_snoc (edge_sy hB h2) ha l' b g1
    exact ⟨l' ++ [t], e1, by rw [e2, g2]; show wln R l + sln R t = sln R t + wln R l; omega⟩
theorem dst_sy (hB : BW R) (ha : a < nn R 0) (hb : b < nn R 0) (h : dst R a b n) : dst R b a n := by
  obtain ⟨⟨l, h1, h2⟩, h3⟩ := h
  obtain ⟨l', g1, g2⟩ := wk_sy hB l a b ha h1
  refine ⟨⟨l', g1, g2.trans h2⟩, fun p hp => ?_⟩
  obtain ⟨p', k1, k2⟩ := wk_sy hB p b a hb hp
  rw [← k2]
  exact h3 p' k1
theorem dd_sy (hB : BW R) (ha : a < nn R 0) (hb : b < nn R 0) : dd R a b = dd R b a := by
  by_cases h : ∃ n, dst R a b n
  · obtain ⟨n, h⟩ := h
    rw [dd_eq h, dd_eq (dst_sy hB ha hb h)]
  · rw [dd_no (fun p hp => h (wk_dst hp)), dd_no (fun p hp => h (by
      obtain ⟨n, hn⟩ := wk_dst hp
      exact ⟨n, dst_sy hB hb ha hn⟩))]
theorem dm_dd (hB : BW R) (ha : a < nn R 0) (hb : b < nn R 0) : dm R a b = dd R a b := by
  unfold dm
  rcases Nat.le_total a b with h | h
  · rw [Nat.min_eq_left h, Nat.max_eq_right h]
  · rw [Nat.min_eq_right h, Nat.max_eq_left h]
    exact dd_sy hB hb ha
theorem k_btw (hK : KS sh z) (hN : WN R) (hW : WS R) (hB : BW R) (hG : GF R) (hS : SPN d z) (hO : GO d z R) (hx : inO R p) (hy : inO R q) : f_X10_between N sh (z + 77) (nI p) (nI q) d = some (nI (dm R p q)) := by
  have n0 := hN.1.2
  have l1 := inO_lt hW hN hx
  have l2 := inO_lt hW hN hy
  rw [k_between hK hS (by omega) (by omega), cap_c (hO q hy p (by omega)), ← dm_dd hB l1 l2, Nat.min_eq_left (by have := dm_le hG hx hy; omega)]
theorem k_stand (hK : KS sh z) (hi : i < 30) (hp : p < 60) (hq : q < 60) : f_X4_stand N sh (z + 201) (nI i) (nI p) (nI q) d = some (wI (wI d (z + 219) i (nI (min p q))) (z + 220) i (nI (max p q))) := by
  refine rn_val ?_
  unfold f_X4_stand
  refine rn_t (ks_o hK 201 4 rfl) ?_
  refine r_gP hK 201 4 8 219 rfl (by decide) ?_
  refine rn_eq (q_sI (ks_a hK 219 0 30 rfl) i rfl hi (by decide)) ?_
  refine r_gP hK 201 4 9 220 rfl (by decide) ?_
  refine rn_eq (q_sI (ks_a hK 220 0 30 rfl) i rfl hi (by decide)) ?_
  rw [o_min_nI (by omega) (by omega), o_max_nI (by omega) (by omega)]
  exact rn_some rfl
/-- what the class's exchanges read -/
def XKK (d : Dt) (z : Nat) (R : Nat → Int32) (P : Nat → Nat × Nat) (n : Nat) : Prop := SPN d z ∧ GO d z R ∧ d.1 (z + 201) 10 = nI n ∧ PG d (z + 219) (z + 220) P n
def EXK (z : Nat) (R : Nat → Int32) (n : Nat) (P : Nat → Nat × Nat) (d0 : Dt) (r : Int32 × Dt) : Prop := KPF z d0 r.2 ∧ r.2.1 (z + 201) = d0.1 (z + 201) ∧ ((r.1 = 0 ∧ (¬ ∃ i j, exS R n P i j) ∧ XKK r.2 z R P n) ∨ (r.1 = 1 ∧ (∃ i j, exS R n P i j) ∧ XKK r.2 z R (exP R P (feI R n P).1 (feI R n P).2) n))
theorem k_exchange (hK : KS sh z) (hN : WN R) (hW : WS R) (hB : BW R) (hG : GF R) (hn : n ≤ 30) (hX : XKK d z R P n) (hO : PO R P n) (hi : i < n) (hj : j < n) : Rn (f_X4_exchange N sh (z + 201) (nI i) (nI j) d) (fun r => (exC R P i j = 0 ∧ r.1 = 0 ∧ r.2 = d) ∨ (exC R P i j ≠ 0 ∧ r.1 = 1 ∧ KPF z d r.2 ∧ r.2.1 (z + 201) = d.1 (z + 201) ∧ PG r.2 (z + 219) (z + 220) (exP R P i j) n)) := by
  have n0 := hN.1.2
  obtain ⟨hS, hGO, h10, hP⟩ := hX
  have h5 := ks_a hK 219 0 30 rfl
  have h6 := ks_a hK 220 0 30 rfl
  obtain ⟨pi1, pi2⟩ := hP i hi
  obtain ⟨pj1, pj2⟩ := hP j hj
  obtain ⟨oi1, oi2⟩ := hO i hi
  obtain ⟨oj1, oj2⟩ := hO j hj
  have lt1 := inO_lt hW hN oi1
  have lt2 := inO_lt hW hN oi2
  have lt3 := inO_lt hW hN oj1
  have lt4 := inO_lt hW hN oj2
  have b1 := dm_le hG oi1 oi2
  have b2 := dm_le hG oj1 oj2
  have b3 := dm_le hG oi1 oj1
  have b4 := dm_le hG oi2 oj2
  have b5 := dm_le hG oi1 oj2
  have b6 := dm_le hG oi2 oj1
  have bt : ∀ {p q}, inO R p → inO R q → f_X10_between N sh (z + 77) (nI p) (nI q) d = some (nI (dm R p q)) := fun h1 h2 => k_btw hK hN hW hB hG hS hGO h1 h2
  unfold f_X4_exchange
  refine rn_t (ks_o hK 201 4 rfl) ?_
  refine r_gP hK 201 4 8 219 rfl (by decide) ?_
  refine rn_eq (q_aT h5 i rfl (by omega) (by decide)) ?_
  refine r_gP hK 201 4 9 220 rfl (by decide) ?_
  refine rn_eq (q_aT h6 i rfl (by omega) (by decide)) ?_
  refine r_gP hK 201 4 8 219 rfl (by decide) ?_
  refine rn_eq (q_aT h5 j rfl (by omega) (by decide)) ?_
  refine r_gP hK 201 4 9 220 rfl (by decide) ?_
  refine rn_eq (q_aT h6 j rfl (by omega) (by decide)) ?_
  rw [pi1, pi2, pj1, pj2]
  refine r_gP hK 201 4 1 77 rfl (by decide) ?_
  refine rn_eq (bt oi1 oi2) ?_
  refine r_gP hK 201 4 1 77 rfl (by decide) ?_
  refine rn_eq (bt oj1 oj2) ?_
  refine r_gP hK 201 4 1 77 rfl (by decide) ?_
  refine rn_eq (bt oi1 oj1) ?_
  refine r_gP hK 201 4 1 77 rfl (by decide) ?_
  refine rn_eq (bt oi2 oj2) ?_
  rw [nI_add, nI_add]
  have done : ∀ (u1 u2 : Nat × Nat), exC R P i j ≠ 0 → exP R P i j = va_up (va_up P i u1) j u2 → (exC R P i j = 0 ∧ (1 : Int32) = 0 ∧ wI (wI (wI (wI d (z + 219) i (nI u1.1)) (z + 220) i (nI u1.2)) (z + 219) j (nI u2.1)) (z + 220) j (nI u2.2) = d) ∨ (exC R P i j ≠ 0 ∧ (1 : Int32) = 1 ∧ KPF z d (wI (wI (wI (wI d (z + 219) i (nI u1.1)) (z + 220) i (nI u1.2)) (z + 219) j (nI u2.1)) (z + 220) j (nI u2.2)) ∧ (wI (wI (wI (wI d (z + 219) i (nI u1.1)) (z + 220) i (nI u1.2)) (z + 219) j (nI u2.1)) (z + 220) j (nI u2.2)).1 (z + 201) = d.1 (z + 201) ∧ PG (wI (wI (wI (wI d (z + 219) i (nI u1.1)) (z + 220) i (nI u1.2)) (z + 219) j (nI u2.1)) (z + 220) j (nI u2.2)) (z + 219) (z + 220) (exP R P i j) n) := fun u1 u2 hc he => by
    refine Or.inr ⟨hc, rfl, ((KPF.w1.tr KPF.w2).tr KPF.w1).tr KPF.w2, ?_, ?_⟩
    · rw [wI_n (by omega), wI_n (by omega), wI_n (by omega), wI_n (by omega)]
    · rw [he]
      exact pg_up (pg_up hP (by omega)) (by omega)
  refine rn_ite (fun q1 => ?_) (fun q1 => ?_)
  · have q1 := (nI_leI (by omega) (by omega)).mp q1
    refine r_gP hK 201 4 1 77 rfl (by decide) ?_
    refine rn_eq (bt oi1 oj2) ?_
    refine r_gP hK 201 4 1 77 rfl (by decide) ?_
    refine rn_eq (bt oi2 oj1) ?_
    rw [nI_add]
    refine rn_ite (fun q2 => ?_) (fun q2 => ?_)
    · have q2 := (nI_leI (by omega) (by omega)).mp q2
      refine rn_some (Or.inl ⟨?_, rfl, rfl⟩)
      unfold exC
      rw [if_neg (by omega), if_neg (by omega)]
    · have q2 : ¬ dm R (P i).1 (P i).2 + dm R (P j).1 (P j).2 ≤ dm R (P i).1 (P j).2 + dm R (P i).2 (P j).1 := fun r => q2 ((nI_leI (by omega) (by omega)).mpr r)
      have ec : exC R P i j = 2 := by
        unfold exC
        rw [if_neg (by omega), if_pos (by omega)]
      refine rn_eq (k_stand hK (by omega) (by omega) (by omega)) ?_
      refine rn_eq (k_stand hK (by omega) (by omega) (by omega)) ?_
      refine rn_some (done (mm (P i).1 (P j).2) (mm (P i).2 (P j).1) (by rw [ec]; decide) ?_)
      unfold exP
      rw [ec, if_neg (by decide)]
  · have q1 : ¬ dm R (P i).1 (P i).2 + dm R (P j).1 (P j).2 ≤ dm R (P i).1 (P j).1 + dm R (P i).2 (P j).2 := fun r => q1 ((nI_leI (by omega) (by omega)).mpr r)
    have ec : exC R P i j = 1 := by
      unfold exC
      rw [if_pos (by omega)]
    refine rn_eq (k_stand hK (by omega) (by omega) (by omega)) ?_
    refine rn_eq (k_stand hK (by omega) (by omega) (by omega)) ?_
    refine rn_some (done (mm (P i).1 (P j).1) (mm (P i).2 (P j).2) (by rw [ec]; decide) ?_)
    unfold exP
    rw [ec, if_pos rfl]
theorem KPF.spn (h : KPF z d d') (hS : SPN d z) : SPN d' z := by
  unfold SPN
  rw [h.1]
  exact hS
theorem kj_loop {k2 : Nat → Int32 → Dt → Option (Int32 × Dt)} (hK : KS sh z) (hN : WN R) (hW : WS R) (hB : BW R) (hG : GF R) (hn : n ≤ 30) (hX : XKK d z R P n) (hO : PO R P n) (hi : i < n) (hI : ∀ i' j', i' < i → ¬ exS R n P i' j') (hk : (∀ j', ¬ exS R n P i j') → Rn (k2 (z + 201) (nI (i + 1)) d) (EXK z R n P d)) : ∀ (m j fu : Nat), j + m = n → m < fu → i < j → (∀ j', j' < j → ¬ exS R n P i j') → Rn (f_X4_exchangeFirst_14 N sh k2 fu (z + 201) (nI i) (nI j) d) (EXK z R n P d)
  | 0, j, fu, hj, hf, hij, hl => by
    obtain ⟨fu, rfl⟩ : ∃ q, fu = q + 1 := ⟨fu - 1, by omega⟩
    show Rn (g_X4_exchangeFirst_14 N sh k2 (f_X4_exchangeFirst_14 N sh k2 fu) (z + 201) (nI i) (nI j) d) _
    unfold g_X4_exchangeFirst_14 f_X4_exchangeFirst_39
    refine r_gI hK (i := 201) (c := 4) rfl ?_
    rw [hX.2.2.1, nI_1]
    refine rn_t ((nI_leI (by omega) (by omega)).mpr (by omega)) ?_
    exact hk (fun j' h => hl j' (by have := h.2.1; omega) h)
  | m + 1, j, fu, hj, hf, hij, hl => by
    obtain ⟨fu, rfl⟩ : ∃ q, fu = q + 1 := ⟨fu - 1, by omega⟩
    have hjn : j < n := by omega
    show Rn (g_X4_exchangeFirst_14 N sh k2 (f_X4_exchangeFirst_14 N sh k2 fu) (z + 201) (nI i) (nI j) d) _
    unfold g_X4_exchangeFirst_14 f_X4_exchangeFirst_31
    refine r_gI hK (i := 201) (c := 4) rfl ?_
    rw [hX.2.2.1]
    refine rn_f (nI_ge hjn (by omega)) ?_
    refine rn_bind (k_exchange hK hN hW hB hG hn hX hO hi hjn) (fun r hr => ?_)
    obtain ⟨r1, r2⟩ := r
    rcases hr with ⟨h1, h2, h3⟩ | ⟨h1, h2, h3, h4, h5⟩
    · have h3 : r2 = d := h3
      refine rn_t h2 ?_
      rw [nI_1]
      show Rn (f_X4_exchangeFirst_14 N sh k2 fu (z + 201) (nI i) (nI (j + 1)) r2) _
      rw [h3]
      refine kj_loop hK hN hW hB hG hn hX hO hi hI hk m (j + 1) fu (by omega) (by omega) (by omega) (fun j' hj' h => ?_)
      by_cases e : j' = j
      · subst e
        exact h.2.2 h1
      · exact hl j' (by omega) h
    · have hfe : feI R n P = (i, j) := feI_eq ⟨hij, hjn, h1⟩ (fun i' j' h' => by
        rcases Nat.lt_trichotomy i' i with q | q | q
        · exact absurd h' (hI i' j' q)
        · subst q
          rcases Nat.lt_or_ge j' j with q2 | q2
          · exact absurd h' (hl j' q2)
          · exact Or.inr ⟨rfl, q2⟩
        · exact Or.inl q)
      have h2 : r1 = 1 := h2
      subst h2
      refine rn_f (show ¬ (1 : Int32) = 0 by decide) ?_
      have hlt : ∀ b, inO R b → b < 60 := fun b hb => by
        have := inO_lt hW hN hb
        have := hN.1.2
        omega
      refine rn_some ⟨h3, h4, Or.inr ⟨rfl, ⟨i, j, hij, hjn, h1⟩, h3.spn hX.1, h3.go hX.2.1 hlt, ?_, ?_⟩⟩
      · show r2.1 (z + 201) 10 = nI n
        rw [show r2.1 (z + 201) = d.1 (z + 201) from h4]
        exact hX.2.2.1
      · rw [hfe]
        exact h5
theorem ki_loop (hN1 : 200 ≤ N) (hK : KS sh z) (hN : WN R) (hW : WS R) (hB : BW R) (hG : GF R) (hn : n ≤ 30) (hX : XKK d z R P n) (hO : PO R P n) : ∀ (m i fu : Nat), i + m = n → m < fu → (∀ i' j', i' < i → ¬ exS R n P i' j') → Rn (f_X4_exchangeFirst_2 N sh fu (z + 201) (nI i) d) (EXK z R n P d)
  | 0, i, fu, hi, hf, hl => by
    obtain ⟨fu, rfl⟩ : ∃ q, fu = q + 1 := ⟨fu - 1, by omega⟩
    show Rn (g_X4_exchangeFirst_2 N sh (f_X4_exchangeFirst_2 N sh fu) (z + 201) (nI i) d) _
    unfold g_X4_exchangeFirst_2 f_X4_exchangeFirst_45
    refine r_gI hK (i := 201) (c := 4) rfl ?_
    rw [hX.2.2.1]
    refine rn_t (nI_le (by omega) (by omega)) ?_
    exact rn_some ⟨KPF.rf, rfl, Or.inl ⟨rfl, fun ⟨i', j', h⟩ => hl i' j' (by have := h.1; have := h.2.1; omega) h, hX⟩⟩
  | m + 1, i, fu, hi, hf, hl => by
    obtain ⟨fu, rfl⟩ : ∃ q, fu = q + 1 := ⟨fu - 1, by omega⟩
    show Rn (g_X4_exchangeFirst_2 N sh (f_X4_exchangeFirst_2 N sh fu) (z + 201) (nI i) d) _
    unfold g_X4_exchangeFirst_2
    refine r_gI hK (i := 201) (c := 4) rfl ?_
    rw [hX.2.2.1]
    refine rn_f (nI_ge (by omega) (by omega)) ?_
    rw [nI_1]
    exact kj_loop hK hN hW hB hG hn hX hO (by omega) hl (fun hno => ki_loop hN1 hK hN hW hB hG hn hX hO m (i + 1) fu (by omega) (by omega) (fun i' j' hi' => by
      by_cases e : i' = i
      · rw [e]
        exact hno j'
      · exact hl i' j' (by omega))) (n - (i + 1)) (i + 1) N (by omega) (by omega) (by omega) (fun j' hj' h => by have := h.1; omega)
theorem ka_loop (hN1 : 2000 ≤ N) (hK : KS sh z) (hN : WN R) (hW : WS R) (hB : BW R) (hG : GF R) (hn : n ≤ 30) : ∀ (m k fu : Nat) (d : Dt) (P : Nat → Nat × Nat), k + m = 1000 → m < fu → KPF z d0 d → d.1 (z + 201) 11 = nI k → XKK d z R P n → PO R P n → Rn (f_X4_exchangeAll_0 N sh fu (z + 201) d) (fun d' => KPF z d0 d' ∧ XKK d' z R (exN R n m P) n)
  | 0, k, fu, d, P, hk, hf, hM, h11, hX, hO => by
    obtain ⟨fu, rfl⟩ : ∃ q, fu = q + 1 := ⟨fu - 1, by omega⟩
    show Rn (g_X4_exchangeAll_0 N sh (f_X4_exchangeAll_0 N sh fu) (z + 201) d) _
    unfold g_X4_exchangeAll_0 f_X4_exchangeAll_30
    refine r_gI hK (i := 201) (c := 4) rfl ?_
    rw [h11]
    exact rn_t (nI_le (a := 1000) (by omega) (by omega)) (rn_some ⟨hM, hX⟩)
  | m + 1, k, fu, d, P, hk, hf, hM, h11, hX, hO => by
    obtain ⟨fu, rfl⟩ : ∃ q, fu = q + 1 := ⟨fu - 1, by omega⟩
    show Rn (g_X4_exchangeAll_0 N sh (f_X4_exchangeAll_0 N sh fu) (z + 201) d) _
    unfold g_X4_exchangeAll_0 f_X4_exchangeAll_30
    refine r_gI hK (i := 201) (c := 4) rfl ?_
    rw [h11]
    refine rn_f (nI_ge (b := 1000) (by omega) (by decide)) ?_
    refine rn_bind (P := EXK z R n P d) ?_ (fun r hr => ?_)
    · unfold f_X4_exchangeFirst
      refine rn_t (ks_o hK 201 4 rfl) ?_
      exact ki_loop (by omega) hK hN hW hB hG hn hX hO n 0 N (by omega) (by omega) (fun i' j' h => absurd h (Nat.not_lt_zero i'))
    · obtain ⟨f1, f2, f3⟩ := hr
      rcases f3 with ⟨g1, g2, g3⟩ | ⟨g1, g2, g3⟩
      · have e : exN R n (m + 1) P = P := ite_n g2
        rw [e]
        exact rn_t g1 (rn_some ⟨hM.tr f1, g3⟩)
      · have e : exN R n (m + 1) P = exN R n m (exP R P (feI R n P).1 (feI R n P).2) := ite_p g2
        rw [e]
        refine rn_f (by rw [g1]; decide) ?_
        refine r_gI hK (i := 201) (c := 4) rfl ?_
        rw [f2, h11, nI_1]
        refine r_pI hK (i := 201) (c := 4) rfl ?_
        obtain ⟨x1, x2, x3, x4⟩ := g3
        have kw : KPF z r.2 (wI r.2 (z + 201) 11 (nI (k + 1))) := KPF.w (Or.inr rfl)
        have hlt : ∀ b, inO R b → b < 60 := fun b hb => by
          have := inO_lt hW hN hb
          have := hN.1.2
          omega
        obtain ⟨ei, ej, es⟩ := g2
        have fi := feI_ok ⟨ei, ej, es⟩
        refine ka_loop hN1 hK hN hW hB hG hn m (k + 1) fu _ _ (by omega) (by omega) ((hM.tr f1).tr kw) (by rw [wI_s, va_up_s]) ⟨kw.spn x1, kw.go x2 hlt, by rw [wI_s, va_up_n (by decide)]; exact x3, fun j hj => ?_⟩ (po_ex hO (by have := fi.1.1; have := fi.1.2.1; omega) fi.1.2.1)
        rw [wI_n (by omega), wI_n (by omega)]
        exact x4 j hj
theorem kio_loop (hK : KS sh z) (h3 : d0.1 (z + 201) 3 = nI (oddl R).length) (hO : OL d0 (z + 202) (oddl R)) (he : (oddl R).length = 2 * n) (hn : n ≤ 30) : ∀ (m i fu : Nat) (d : Dt), i + m = n → m < fu → KPF z d0 d → d.1 (z + 201) 10 = nI i → d.1 (z + 201) 11 = d0.1 (z + 201) 11 → PG d (z + 219) (z + 220) (P0 R) i → Rn (f_X4_pairInOrder_2 N sh fu (z + 201) (nI (2 * i)) d) (fun d' => KPF z d0 d' ∧ d'.1 (z + 201) 10 = nI n ∧ d'.1 (z + 201) 11 = d0.1 (z + 201) 11 ∧ PG d' (z + 219) (z + 220) (P0 R) n)
  | 0, i, fu, d, hi, hf, hM, h10, h11, hP => by
    obtain ⟨fu, rfl⟩ : ∃ q, fu = q + 1 := ⟨fu - 1, by omega⟩
    show Rn (g_X4_pairInOrder_2 N sh (f_X4_pairInOrder_2 N sh fu) (z + 201) (nI (2 * i)) d) _
    unfold g_X4_pairInOrder_2 f_X4_pairInOrder_36
    refine r_gI hK (i := 201) (c := 4) rfl ?_
    rw [hM.2.2 3 (by decide) (by decide), h3, nI_1]
    have e : i = n := by omega
    rw [e] at h10 hP ⊢
    exact rn_t (nI_le (by omega) (by omega)) (rn_some ⟨hM, h10, h11, hP⟩)
  | m + 1, i, fu, d, hi, hf, hM, h10, h11, hP => by
    obtain ⟨fu, rfl⟩ : ∃ q, fu = q + 1 := ⟨fu - 1, by omega⟩
    show Rn (g_X4_pairInOrder_2 N sh (f_X4_pairInOrder_2 N sh fu) (z + 201) (nI (2 * i)) d) _
    unfold g_X4_pairInOrder_2
    refine r_gI hK (i := 201) (c := 4) rfl ?_
    rw [hM.2.2 3 (by decide) (by decide), h3, nI_1]
    refine rn_f (nI_ge (by omega) (by omega)) ?_
    have e202 : d.1 (z + 202) = d0.1 (z + 202) := hM.2.1 _ (by omega) (by omega) (by omega)
    refine r_gP hK 201 4 2 202 rfl (by decide) ?_
    refine rn_eq (q_aT (ks_a hK 202 0 60 rfl) (2 * i) rfl (by omega) (by decide)) ?_
    refine r_gP hK 201 4 2 202 rfl (by decide) ?_
    refine rn_eq (q_aT (ks_a hK 202 0 60 rfl) (2 * i + 1) rfl (by omega) (by decide)) ?_
    rw [e202, hO _ (by omega), hO _ (by omega)]
    refine rn_bind (k_addPair (P := P0 R) (p := oC R (2 * i)) (q := oC R (2 * i + 1)) hK h10 (by omega) hP rfl) (fun d2 h2 => ?_)
    obtain ⟨g1, g2, g3, g4⟩ := h2
    have e2 : nI (2 * i) + 2 = nI (2 * (i + 1)) := nI_add (2 * i) 2
    rw [e2]
    exact kio_loop hK h3 hO he hn m (i + 1) fu d2 (by omega) (by omega) (hM.tr g1) g2 (g4.trans h11) g3
/-- what pairUp() leaves -/
def PUQ (s : AS) (z : Nat) (ow : Nat → Nat) (R K : Nat → Int32) (u : Bool) (y : YL) (cc : Nat) (s' : AS) : Prop := ∃ ow' Lt', ES (IX z ow 201 220) s ow s' ow' ∧ CI s' z ow' R K u (y.1, y.2.1, y.2.2.1, Lt', y.2.2.2.2) cc ∧ RFR z s s' ∧ s'.2.1 (z + 201) 10 = nI (pairsL R).length ∧ PA s'.2 (z + 219) (z + 220) (pairsL R)
theorem k_pairUp (hN1 : 20000 ≤ N) (h : CI s z ow R K u y cc) (hR : WF R) (hB : BW R) (hG : GF R) (hO : GO s.2 z R) (hS : SPN s.2 z) : Rn (f_X4_pairUp N (z + 201) s) (PUQ s z ow R K u y cc) := by
  have hK := h.1
  have hw := h.2.1
  have hN := hR.1
  have hW := hR.2.2.1
  have hl := oddl_len hW hN
  have he := oddl_even hW hN
  have hlt : ∀ b, inO R b → b < 60 := fun b hb => by
    have := inO_lt hW hN hb
    have := hN.1.2
    omega
  unfold f_X4_pairUp
  refine rn_t (ks_o hK 201 4 rfl) ?_
  refine rn_bind (k_list (by omega) hK hN hW h.2.2.1.2.1 h.2.2.2.2.2.2.2.2.1) (fun r hr => ?_)
  obtain ⟨l1, -, l4, l3, lO⟩ := hr
  have c1 := ci_pr h (l1.fd hw) (by rw [l1.1]) (Or.inr ⟨l4, l3, lO⟩) (prt_lf h l1) (l1.2.2 7 (by decide) (by decide))
  refine r_pI hK (i := 201) (c := 4) rfl ?_
  refine r_pI hK (i := 201) (c := 4) rfl ?_
  have kw : KPF z r.2 (wI (wI r.2 (z + 201) 10 0) (z + 201) 11 0) := (KPF.w (Or.inl rfl)).tr (KPF.w (Or.inr rfl))
  have c2 := ci_kp (s := (s.1, r.2)) c1.1 kw
  have w3 : (wI (wI r.2 (z + 201) 10 0) (z + 201) 11 0).1 (z + 201) 3 = nI (oddl R).length := by rw [kw.2.2 3 (by decide) (by decide)]; exact l3
  have w4 : (wI (wI r.2 (z + 201) 10 0) (z + 201) 11 0).1 (z + 201) 4 = 1 := by rw [kw.2.2 4 (by decide) (by decide)]; exact l4
  have wO : OL (wI (wI r.2 (z + 201) 10 0) (z + 201) 11 0) (z + 202) (oddl R) := by
    unfold OL
    rw [kw.2.1 (z + 202) (by omega) (by omega) (by omega)]
    exact lO
  have gO : GO (wI (wI r.2 (z + 201) 10 0) (z + 201) 11 0) z R := kw.go (fun b hb a ha => by
    have := hlt b hb
    rw [l1.2.1 (z + (141 + b)) (by omega) (by omega)]
    exact hO b hb a ha) hlt
  have w10 : (wI (wI r.2 (z + 201) 10 0) (z + 201) 11 0).1 (z + 201) 10 = 0 := by rw [wI_s, va_up_n (by decide), wI_s, va_up_s]
  have w11 : (wI (wI r.2 (z + 201) 10 0) (z + 201) 11 0).1 (z + 201) 11 = 0 := by rw [wI_s, va_up_s]
  have fd1 : FD (IX z ow 201 220) s.2 (wI (wI r.2 (z + 201) 10 0) (z + 201) 11 0) := (l1.fd hw).tr (kw.fd hw)
  have es1 : ES (IX z ow 201 220) s ow (s.1, wI (wI r.2 (z + 201) 10 0) (z + 201) 11 0) ow := FD.es (sh := s.1) (d := s.2) fd1
  have f1 : RFR z s (s.1, wI (wI r.2 (z + 201) 10 0) (z + 201) 11 0) := c1.2.tr c2.2
  refine r_gI hK (i := 201) (c := 4) rfl ?_
  rw [w3]
  unfold f_X4_pairUp_28 f_X4_pairUp_43
  by_cases hm : (oddl R).length ≤ 14
  · refine rn_f (fun q => absurd ((nI_ltI (a := 14) (by decide) (by omega)).mp q) (by omega)) ?_
    refine rn_bind (k_fillTable hN1 c2.1 hR w4 w3 wO hm gO) (fun s2 h2 => ?_)
    obtain ⟨ow', Lt', e2, c3, f3, t7, tT, tk, tr⟩ := h2
    have hK2 := c3.1
    have hw2 := c3.2.1
    obtain ⟨⟨-, tg, a, ta, tb⟩, tl⟩ := tT
    obtain ⟨⟨-, -, q3⟩, -, ⟨a', y1, y2, y3, y4, y5, y6⟩, -⟩ := c3.2.2.2.2.1
    have ea : a' = a := by
      rw [ta] at y1
      exact (Option.some.inj y1).symm
    subst ea
    have xx : ∀ i, i = 201 ∨ i = 219 ∨ i = 220 → a' ≠ z + i := fun i hi e => by
      have : ow' (z + i) = 0 := by
        rcases hi with rfl | rfl | rfl
        · exact hw2 201 (by decide) (by decide)
        · exact hw2 219 (by decide) (by decide)
        · exact hw2 220 (by decide) (by decide)
      rw [e, this] at y2
      omega
    have tkk : TKK s2.1 s2.2 z R a' := by
      refine ⟨?_, ?_, q3, tg, ta, ⟨y3, by rw [y4]; exact tl, by rw [y4]; exact y6⟩, tb, xx 201 (Or.inl rfl), xx 219 (Or.inr (Or.inl rfl)), xx 220 (Or.inr (Or.inr rfl))⟩
      · rw [tk 3 (by decide)]
        exact w3
      · unfold OL
        rw [tr 202 (Or.inl rfl)]
        exact wO
    refine rn_bind (k_pairExactly (by omega) hK2 hN hW hm hG tkk (by rw [tk 10 (by decide)]; exact w10)) (fun d3 h3 => rn_some ?_)
    obtain ⟨g1, g2, g3⟩ := h3
    have c4 := ci_kp c3 g1
    have es3 : ES (IX z ow 201 220) s ow (s2.1, d3) ow' := es_fd (es1.tr e2 (fun x _ hx => hx)) (g1.fd hw2)
    exact ⟨ow', Lt', es3, c4.1, (f1.tr f3).tr c4.2, g2, g3⟩
  · refine rn_t (nI_lt (a := 14) (by omega) (by omega)) ?_
    have hS1 : SPN (wI (wI r.2 (z + 201) 10 0) (z + 201) 11 0) z := kw.spn (by
      unfold SPN
      rw [l1.1]
      exact hS)
    refine rn_bind (P := fun d' => KPF z (wI (wI r.2 (z + 201) 10 0) (z + 201) 11 0) d' ∧ d'.1 (z + 201) 10 = nI ((oddl R).length / 2) ∧ d'.1 (z + 201) 11 = (wI (wI r.2 (z + 201) 10 0) (z + 201) 11 0).1 (z + 201) 11 ∧ PG d' (z + 219) (z + 220) (P0 R) ((oddl R).length / 2)) ?_ (fun d5 h5 => ?_)
    · unfold f_X4_pairInOrder
      refine rn_t (ks_o hK 201 4 rfl) ?_
      exact kio_loop (d0 := wI (wI r.2 (z + 201) 10 0) (z + 201) 11 0) hK w3 wO (by omega) (by omega) ((oddl R).length / 2) 0 N _ (by omega) (by omega) KPF.rf w10 rfl (fun k hk => absurd hk (Nat.not_lt_zero k))
    · obtain ⟨g1, g2, g3, g4⟩ := h5
      have po : PO R (P0 R) ((oddl R).length / 2) := fun k hk => ⟨⟨2 * k, by omega, rfl⟩, ⟨2 * k + 1, by omega, rfl⟩⟩
      unfold f_X4_exchangeAll
      refine rn_bind (P := fun d' => KPF z d5 d' ∧ XKK d' z R (exN R ((oddl R).length / 2) 1000 (P0 R)) ((oddl R).length / 2)) ?_ (fun d6 h6 => rn_some ?_)
      · refine rn_t (ks_o hK 201 4 rfl) ?_
        exact ka_loop (d0 := d5) (by omega) hK hN hW hB hG (by omega) 1000 0 N d5 (P0 R) rfl (by omega) KPF.rf (by rw [g3]; exact w11) ⟨g1.spn hS1, g1.go gO hlt, g2, g4⟩ po
      · obtain ⟨k1, -, -, k4, k5⟩ := h6
        have kk := (kw.tr g1).tr k1
        have c4 := ci_kp (s := (s.1, r.2)) c1.1 kk
        have e : pairsL R = (List.range ((oddl R).length / 2)).map (exN R ((oddl R).length / 2) 1000 (P0 R)) := if_neg hm
        have el : (pairsL R).length = (oddl R).length / 2 := by rw [e, List.length_map, List.length_range]
        have fd2 : FD (IX z ow 201 220) s.2 d6 := (l1.fd hw).tr (kk.fd hw)
        have es2 : ES (IX z ow 201 220) s ow (s.1, d6) ow := FD.es (sh := s.1) (d := s.2) fd2
        refine ⟨ow, y.2.2.2.1, es2, c4.1, c1.2.tr c4.2, by rw [el]; exact k4, fun k hk => ?_⟩
        have hk2 : k < (oddl R).length / 2 := by rw [← el]; exact hk
        have eg : (pairsL R).getD k (0, 0) = exN R ((oddl R).length / 2) 1000 (P0 R) k := by
          rw [e, List.getD_eq_getElem?_getD, List.getElem?_map, List.getElem?_range hk2]
          rfl
        rw [eg]
        exact k5 k hk2
end KEX
