section OK
variable {s : AS} {Q : Dt → Prop} {sh : Sh} {d d0 d' : Dt} {z : Nat} {ow : Nat → Nat} {R K : Nat → Int32} {u : Bool} {y : YL} {N c i cc : Nat} {T T' : Nat → Nat} {L : Nat → Nat}
theorem dg_out (hW : WS R) (hN : WN R) (hc : nn R 0 ≤ c) : ∀ i, i ≤ nn R 1 → dgT R T c i = 0
  | 0, _ => rfl
  | i + 1, hi => by
    obtain ⟨e7, a2, e8, b2, hne⟩ := ws_e hW hN (s := i) (by omega)
    show (dgT R T c i + if eA R i = c ∨ eB R i = c then T i else 0) = 0
    rw [dg_out hW hN hc i (by omega), if_neg (by omega)]
theorem oddP_60 (hW : WS R) (hN : WN R) : ∀ k, oddP R T (nn R 0 + k) = oddP R T (nn R 0)
  | 0 => rfl
  | k + 1 => by
    rw [← Nat.add_assoc, oddP_s, oddP_60 hW hN k, if_neg (by rw [dg_out hW hN (by omega) _ (Nat.le_refl _)]; decide), List.append_nil]
theorem k_sidesDue {t : Nat} (hK : KS sh z) (hT : TB sh d z ow 4 9 (nn R 1) (vS R) L) (hW : WS R) (ht : t < nn R 1) : f_X1_sidesDue N sh (z + 3) (nI t) d = some (nI (T0 R t)) := by
  obtain ⟨-, -, -, e4, e3, e32⟩ := hW t ht
  refine rn_val ?_
  unfold f_X1_sidesDue
  refine rn_t (ks_o hK 3 1 rfl) ?_
  refine r_gP hK 3 1 1 4 rfl (by decide) ?_
  refine rn_eq (tb_get (o := 4) (nc := 9) (c := 4) hK (by decide) hT rfl ht rfl (by decide)) ?_
  have x4 : vS R 4 t = R (16 + 9 * t + 4) := rfl
  rw [x4]
  unfold T0
  by_cases h4 : R (16 + 9 * t + 4) = 0
  · rw [if_pos h4]
    refine rn_f (fun q => q h4) ?_
    refine r_gP hK 3 1 1 4 rfl (by decide) ?_
    refine rn_eq (tb_get (o := 4) (nc := 9) (c := 3) hK (by decide) hT rfl ht rfl (by decide)) ?_
    have x3 : vS R 3 t = R (16 + 9 * t + 3) := rfl
    rw [x3, e3]
    exact ⟨_, rfl, rfl⟩
  · rw [if_neg h4]
    refine rn_t h4 ?_
    exact ⟨_, rfl, rfl⟩
/-- a STREET's column, by way of the books of the pairing -/
theorem r_stp {β : Type} {Q : β → Prop} {g : Int32 → Option β} {t : Nat} {x : Int32} (k : Nat) (hK : KS sh z) (hT : TB sh d z ow 4 9 (nn R 1) (vS R) L) (hi : t < nn R 1) (hk : k < 9) (hx : x = nI k) (kk : Rn (g (R (16 + 9 * t + k))) Q) : Rn ((gP sh (z + 201) 4 0).bind fun v => (gP sh v 1 1).bind fun v2 => (f_X8_get N sh v2 (nI t) x d).bind g) Q := by
  refine r_gP hK 201 4 0 3 rfl (by decide) ?_
  refine r_gP hK 3 1 1 4 rfl (by decide) ?_
  exact rn_eq (tb_get (o := 4) (nc := 9) (c := k) hK (by decide) hT rfl hi hx hk) kk
theorem ob_loop (hK : KS sh z) (hN : WN R) (hW : WS R) (hT : TB sh d z ow 4 9 (nn R 1) (vS R) L) : ∀ (m i fu : Nat) (x : Int64), i + m = nn R 1 → m < fu → (∀ v, bit x v = decide (dgT R (T0 R) v i % 2 = 1)) → Rn (f_X4_oddBits_4 N sh d fu (z + 201) x (nI i)) (fun r => ∀ v, bit r v = decide (dgT R (T0 R) v (nn R 1) % 2 = 1))
  | 0, i, fu, x, hi, hf, hx => by
    obtain ⟨fu, rfl⟩ : ∃ q, fu = q + 1 := ⟨fu - 1, by omega⟩
    show Rn (g_X4_oddBits_4 N sh (f_X4_oddBits_4 N sh d fu) (z + 201) x (nI i) d) _
    have n1 := hN.2.1.2
    unfold g_X4_oddBits_4
    refine r_gP hK 201 4 0 3 rfl (by decide) ?_
    refine r_gP hK 3 1 1 4 rfl (by decide) ?_
    refine r_gI hK (i := 4) (c := 8) rfl ?_
    rw [hT.1]
    refine rn_t ((nI_leI (by omega) (by omega)).mpr (by omega)) ?_
    have e : i = nn R 1 := by omega
    subst e
    exact rn_some hx
  | m + 1, i, fu, x, hi, hf, hx => by
    obtain ⟨fu, rfl⟩ : ∃ q, fu = q + 1 := ⟨fu - 1, by omega⟩
    have ih := ob_loop hK hN hW hT m (i + 1) fu
    show Rn (g_X4_oddBits_4 N sh (f_X4_oddBits_4 N sh d fu) (z + 201) x (nI i) d) _
    have n0 := hN.1.2
    have n1 := hN.2.1.2
    have his : i < nn R 1 := by omega
    obtain ⟨e7, a2, e8, b2, hne⟩ := ws_e hW hN his
    have t2 := T0_le hW his
    have e9 : ∀ v, dgT R (T0 R) v (i + 1) = dgT R (T0 R) v i + if eA R i = v ∨ eB R i = v then T0 R i else 0 := fun v => rfl
    unfold g_X4_oddBits_4 f_X4_oddBits_66
    refine r_gP hK 201 4 0 3 rfl (by decide) ?_
    refine r_gP hK 3 1 1 4 rfl (by decide) ?_
    refine r_gI hK (i := 4) (c := 8) rfl ?_
    rw [hT.1, nI_1]
    refine rn_f (nI_ge his (by omega)) ?_
    refine r_gP hK 201 4 0 3 rfl (by decide) ?_
    refine rn_eq (k_sidesDue hK hT hW his) ?_
    refine rn_ite (fun q => ?_) (fun q => ?_)
    · have q : T0 R i ≠ 1 := fun r => q (by rw [r]; rfl)
      refine ih x (by omega) (by omega) (fun v => ?_)
      rw [hx v, e9]
      have : (dgT R (T0 R) v i + if eA R i = v ∨ eB R i = v then T0 R i else 0) % 2 = dgT R (T0 R) v i % 2 := by
        split <;> omega
      rw [this]
    · have q : T0 R i = 1 := nI_inj (b := 1) (Decidable.of_not_not q) (by omega) (by decide)
      refine r_stp 7 hK hT his (by decide) rfl ?_
      refine r_stp 8 hK hT his (by decide) rfl ?_
      rw [e7, e8]
      refine ih _ (by omega) (by omega) (fun v => ?_)
      have b1 : bit ((1 : Int64) <<< ((nI (eA R i)).toInt64 &&& 63)) v = decide (eA R i = v) := bit_bt (by omega)
      have b3 : bit ((1 : Int64) <<< ((nI (eB R i)).toInt64 &&& 63)) v = decide (eB R i = v) := bit_bt (by omega)
      rw [bit_xor, bit_xor, b1, b3, hx v, e9, q]
      rcases Nat.mod_two_eq_zero_or_one (dgT R (T0 R) v i) with r | r
      · by_cases c1 : eA R i = v
        · have c2 : ¬ eB R i = v := fun e => hne (c1.trans e.symm)
          have r2 : (dgT R (T0 R) v i + 1) % 2 = 1 := by omega
          simp [c1, c2, r, r2]
        · by_cases c2 : eB R i = v
          · have r2 : (dgT R (T0 R) v i + 1) % 2 = 1 := by omega
            simp [c1, c2, r, r2]
          · simp [c1, c2, r]
      · by_cases c1 : eA R i = v
        · have c2 : ¬ eB R i = v := fun e => hne (c1.trans e.symm)
          have r2 : ¬ (dgT R (T0 R) v i + 1) % 2 = 1 := by omega
          simp [c1, c2, r, r2]
        · by_cases c2 : eB R i = v
          · have r2 : ¬ (dgT R (T0 R) v i + 1) % 2 = 1 := by omega
            simp [c1, c2, r, r2]
          · simp [c1, c2, r]
theorem k_oddBits (hN2 : 200 ≤ N) (hK : KS sh z) (hN : WN R) (hW : WS R) (hT : TB sh d z ow 4 9 (nn R 1) (vS R) L) : Rn (f_X4_oddBits N sh (z + 201) d) (fun r => ∀ v, bit r v = decide (dgT R (T0 R) v (nn R 1) % 2 = 1)) := by
  have n1 := hN.2.1.2
  unfold f_X4_oddBits
  refine rn_t (ks_o hK 201 4 rfl) ?_
  refine ob_loop hK hN hW hT (nn R 1) 0 N 0 (by omega) (by omega) (fun v => ?_)
  rw [bit_0]
  rfl
/-- the odd bits are CROSSINGS -/
theorem ob_lt {x : Int64} (hW : WS R) (hN : WN R) (hx : ∀ v, bit x v = decide (dgT R (T0 R) v (nn R 1) % 2 = 1)) : ∀ j, bit x j = true → j < nn R 0 := fun j hj => by
  rcases Nat.lt_or_ge j (nn R 0) with q | q
  · exact q
  · rw [hx j, dg_out hW hN q _ (Nat.le_refl _)] at hj
    simp at hj
/-- the pairing's list alone is touched -/
def LF (z : Nat) (d d' : Dt) : Prop := d'.2 = d.2 ∧ (∀ a, a ≠ z + 201 → a ≠ z + 202 → d'.1 a = d.1 a) ∧ ∀ k, k ≠ 3 → k ≠ 4 → d'.1 (z + 201) k = d.1 (z + 201) k
theorem LF.rf : LF z d d := ⟨rfl, fun _ _ _ => rfl, fun _ _ _ => rfl⟩
theorem LF.tr {d1 d2 : Dt} (h1 : LF z d d1) (h2 : LF z d1 d2) : LF z d d2 := ⟨h2.1.trans h1.1, fun a q1 q2 => (h2.2.1 a q1 q2).trans (h1.2.1 a q1 q2), fun k q1 q2 => (h2.2.2 k q1 q2).trans (h1.2.2 k q1 q2)⟩
theorem LF.w {k : Nat} {v : Int32} (hk : k = 3 ∨ k = 4) : LF z d (wI d (z + 201) k v) := ⟨rfl, fun a q _ => wI_n q, fun j q1 q2 => by rw [wI_s, va_up_n (by omega)]⟩
theorem LF.w2 {k : Nat} {v : Int32} : LF z d (wI d (z + 202) k v) := ⟨rfl, fun a _ q => wI_n q, fun j _ _ => by rw [wI_n (by omega)]⟩
theorem list_loop {x : Int64} (hK : KS sh z) (hN : WN R) (hW : WS R) (hx : ∀ v, bit x v = decide (dgT R (T0 R) v (nn R 1) % 2 = 1)) : ∀ (m i fu : Nat) (d : Dt), i + m = 60 → m < fu → LF z d0 d → d.1 (z + 201) 3 = nI (oddP R (T0 R) i).length → OL d (z + 202) (oddP R (T0 R) i) → Rn (f_X4_list_24 N sh fu (z + 201) x (nI i) d) (fun r => LF z d0 r.2 ∧ r.1 = nI (oddl R).length ∧ r.2.1 (z + 201) 4 = 1 ∧ r.2.1 (z + 201) 3 = nI (oddl R).length ∧ OL r.2 (z + 202) (oddl R))
  | 0, i, fu, d, hi, hf, hM, h1, h2 => by
    obtain ⟨fu, rfl⟩ : ∃ q, fu = q + 1 := ⟨fu - 1, by omega⟩
    show Rn (g_X4_list_24 N sh (f_X4_list_24 N sh fu) (z + 201) x (nI i) d) _
    have n0 := hN.1.2
    unfold g_X4_list_24
    refine rn_t ((nI_leI (a := 60) (by omega) (by omega)).mpr (by omega)) ?_
    have e : oddP R (T0 R) i = oddl R := by
      rw [oddl_eq hW hN, show i = nn R 0 + (60 - nn R 0) by omega, oddP_60 hW hN]
    rw [e] at h1 h2
    unfold f_X4_list_66
    refine r_pI hK (i := 201) (c := 4) rfl ?_
    refine r_gI hK (i := 201) (c := 4) rfl ?_
    have e3 : (wI d (z + 201) 4 1).1 (z + 201) 3 = nI (oddl R).length := by
      rw [wI_s, va_up_n (by decide)]
      exact h1
    refine rn_some ⟨hM.tr (LF.w (Or.inr rfl)), e3, by rw [wI_s, va_up_s], e3, fun k hk => ?_⟩
    rw [wI_n (by omega)]
    exact h2 k hk
  | m + 1, i, fu, d, hi, hf, hM, h1, h2 => by
    obtain ⟨fu, rfl⟩ : ∃ q, fu = q + 1 := ⟨fu - 1, by omega⟩
    have ih := list_loop hK hN hW hx m (i + 1) fu
    show Rn (g_X4_list_24 N sh (f_X4_list_24 N sh fu) (z + 201) x (nI i) d) _
    have hlen := oddP_len (R := R) (T := T0 R) i
    unfold g_X4_list_24 f_X4_list_60
    rw [nI_1]
    refine rn_f (nI_ge (b := 60) (by omega) (by decide)) ?_
    have hb : bit x i = true ↔ dgT R (T0 R) i (nn R 1) % 2 = 1 := by
      rw [hx i, decide_eq_true_iff]
    refine rn_ite (fun q => ?_) (fun q => ?_)
    · have q : ¬ dgT R (T0 R) i (nn R 1) % 2 = 1 := fun r => q ((bit_tst (by omega)).mpr (hb.mpr r))
      refine ih d (by omega) (by omega) hM ?_ ?_
      · rw [oddP_s, if_neg q, List.append_nil]
        exact h1
      · rw [oddP_s, if_neg q, List.append_nil]
        exact h2
    · have q := hb.mp ((bit_tst (by omega)).mp (Decidable.of_not_not q))
      refine r_gP hK 201 4 2 202 rfl (by decide) ?_
      refine r_gI hK (i := 201) (c := 4) rfl ?_
      rw [h1]
      refine rn_eq (q_sI (ks_a hK 202 0 60 rfl) (oddP R (T0 R) i).length rfl (by omega) (by decide)) ?_
      refine r_gI hK (i := 201) (c := 4) rfl ?_
      refine r_pI hK (i := 201) (c := 4) rfl ?_
      have e3 : (wI d (z + 202) (oddP R (T0 R) i).length (nI i)).1 (z + 201) 3 = nI (oddP R (T0 R) i).length := by
        rw [wI_n (by omega)]
        exact h1
      rw [e3, nI_1]
      refine ih _ (by omega) (by omega) (hM.tr (LF.w2.tr (LF.w (Or.inl rfl)))) ?_ ?_
      · rw [wI_s, va_up_s, oddP_s, if_pos q]
        simp
      · rw [oddP_s, if_pos q]
        intro k hk
        rw [wI_n (by omega)]
        exact ol_app h2 k hk
theorem k_list (hN2 : 200 ≤ N) (hK : KS sh z) (hN : WN R) (hW : WS R) (hT : TB sh d z ow 4 9 (nn R 1) (vS R) L) (hl : PRl d z R) : Rn (f_X4_list N sh (z + 201) d) (fun r => LF z d r.2 ∧ r.1 = nI (oddl R).length ∧ r.2.1 (z + 201) 4 = 1 ∧ r.2.1 (z + 201) 3 = nI (oddl R).length ∧ OL r.2 (z + 202) (oddl R)) := by
  unfold f_X4_list
  refine rn_t (ks_o hK 201 4 rfl) ?_
  refine r_gI hK (i := 201) (c := 4) rfl ?_
  rcases hl with hl | ⟨h1, h2, h3⟩
  · refine rn_t hl ?_
    refine rn_bind (k_oddBits hN2 hK hN hW hT) (fun x hx => ?_)
    refine r_pI hK (i := 201) (c := 4) rfl ?_
    refine list_loop (d0 := d) hK hN hW hx 60 0 N _ (by omega) (by omega) (LF.w (Or.inl rfl)) ?_ (fun k hk => absurd hk (by simp [oddP]))
    rw [wI_s, va_up_s]
    rfl
  · refine rn_f (by rw [h1]; decide) ?_
    refine r_gI hK (i := 201) (c := 4) rfl ?_
    exact rn_some ⟨LF.rf, h2, h1, h2, h3⟩
/-- the pairing is found anew: all else stands -/
theorem ci_pr (h : CI s z ow R K u y cc) (hd : FD (IX z ow 201 220) s.2 d') (h2 : d'.2.2.2 = s.2.2.2.2) (hl : PRl d' z R) (ht : PRt d' z R) (h7 : d'.1 (z + 201) 7 = s.2.1 (z + 201) 7) : CI (s.1, d') z ow R K u y cc ∧ RFR z s (s.1, d') := by
  obtain ⟨hK, hw, b1, b2, b3, b4, b5, b6, b7, b8, b9, b10, b11⟩ := h
  have he : ES (IX z ow 201 220) s ow (s.1, d') ow := FD.es (sh := s.1) (d := s.2) hd
  have r0 := es_row hK hw he (i := 0) (by decide) (by omega)
  refine ⟨⟨hK, hw, bk_ix b1 (Or.inl rfl) hK hw he (by omega), bk_ix b2 (Or.inr rfl) hK hw he (by omega), ?_, pb_ix b4 hK hw he (by omega) (by omega), pb_ix b5 hK hw he (by omega) (by omega), wy_ix b6 hK hw he (by omega), hl, ht, by rw [r0.1]; exact b9, b10, b11.1, tln_eq b11.2 h7⟩, RFR.ix hK hw he (by omega)⟩
  obtain ⟨⟨h1, h2', h3⟩, ⟨⟨S, V, h4, h5⟩, h6⟩, ⟨a, t1, t2, t3, t4, t5, t6⟩, b, g, g1, g2, g3, g4, g5, g6, g7, g8, g9⟩ := b3
  have Xb : ¬ IX z ow 201 220 b := fun q => by
    unfold IX at q
    rw [onr_r (o := 0) (k := 0) g2 (by omega)] at q
    omega
  have rb := (he.2.2 b g3.2.1).2.2.2.2 Xb
  refine ⟨⟨fun c hc => by rw [h2]; exact h1 c hc, fun c hc => by rw [h2]; exact h2' c hc, fun c hc => by rw [h2]; exact h3 c hc⟩, ⟨⟨S, V, tb_ix h4 hK hw (by decide) he (by omega), h5⟩, h6⟩, ⟨a, by rw [h2]; exact t1, t2, t3, t4, t5, t6⟩, b, g, by rw [h2]; exact g1, g2, g3, g4, g5, g6, by rw [r0.1]; exact g7, g8, fun i hi9 => by rw [rb.1]; exact g9 i hi9⟩
theorem LF.fd (h : LF z d d') (hw : OWS ow z) : FD (IX z ow 201 220) d d' := fun a ha => by
  have q : ∀ i, i = 201 ∨ i = 202 → a ≠ z + i := fun i hi e => by
    refine ha ?_
    rw [e]
    unfold IX
    rcases hi with rfl | rfl
    · rw [onr_s (hw 201 (by decide) (by decide)) (by decide)]
      omega
    · rw [onr_s (hw 202 (by decide) (by decide)) (by decide)]
      omega
  exact ⟨h.2.1 a (q 201 (Or.inl rfl)) (q 202 (Or.inr rfl)), by rw [h.1], by rw [h.1], by rw [h.1]⟩
theorem prt_lf (h : CI s z ow R K u y cc) (l : LF z s.2 d') : PRt d' z R := by
  obtain ⟨hK, hw, b1, b2, b3, b4, b5, b6, b7, b8, b9, b10, b11⟩ := h
  rcases b8 with q | ⟨q, h1, h2, a, h3, h4⟩
  · left
    rw [l.2.2 7 (by decide) (by decide)]
    exact q
  · right
    obtain ⟨-, -, ⟨a', t1, t2, t3, t4, t5, t6⟩, -⟩ := b3
    have ea : a' = a := by
      rw [h3] at t1
      exact (Option.some.inj t1).symm
    subst ea
    have x1 : a' ≠ z + 201 := fun e => by
      rw [e, hw 201 (by decide) (by decide)] at t2
      omega
    have x2 : a' ≠ z + 202 := fun e => by
      rw [e, hw 202 (by decide) (by decide)] at t2
      omega
    refine ⟨by rw [l.2.2 7 (by decide) (by decide)]; exact q, h1, fun i j hij hj => ?_, a', by rw [l.1]; exact h3, fun S hS => ?_⟩
    · rw [l.2.1 (z + (204 + i)) (by omega) (by omega)]
      exact h2 i j hij hj
    · rw [l.2.1 a' x1 x2]
      exact h4 S hS
/-! odd() -/
theorem m_odd {x : Int32} (hNf : 15642 < N) (hK : KS sh z) (h : RI d z R K u) (hR : WF R) : Rn (f_X12_odd N sh (z + 242) x d) (RR z R K u d) := by
  have n0 := hR.1.1.2
  unfold f_X12_odd
  refine rn_t (ks_o hK 242 12 rfl) ?_
  refine rn_bind (m_beginTimes (by omega) hK hR.1 hR.2.2.1 h.1) (fun d1 hd1 => ?_)
  have hA1 : AG (d1.1 (z + 243)) R := by rw [hd1.1.2 (z + 243) (by omega)]; exact h.1
  refine rn_bind (m_findOdd (by omega) hK hR.1 hR.2.2.1 hA1 hd1.2 (fun s hs => by have := T0_le hR.2.2.1 hs; omega)) (fun d2 hd2 => ?_)
  obtain ⟨o1, o2, o3⟩ := hd2
  have hlen := oddP_len (R := R) (T := T0 R) (nn R 0)
  have hm : MFR z d d2 := ⟨by rw [o1.1, hd1.1.1], by rw [o1.1, hd1.1.1], fun a q => ⟨by rw [o1.2.1 a (by omega) (by omega)]; exact hd1.1.2 a (by omega), by rw [o1.1, hd1.1.1]⟩⟩
  have hri : RI d2 z R K u := by
    obtain ⟨h1, h2, h3, ⟨g, h4, h5⟩, h6⟩ := h
    have r : ∀ i, i ≠ 242 → i ≠ 251 → i ≠ 252 → d2.1 (z + i) = d.1 (z + i) := fun i q1 q2 q3 => by
      rw [o1.2.1 (z + i) (by omega) (by omega)]
      exact hd1.1.2 (z + i) (by omega)
    have r2 : ∀ k, k ≠ 16 → d2.1 (z + 242) k = d.1 (z + 242) k := fun k q => by
      rw [o1.2.2 k q, hd1.1.2 (z + 242) (by omega)]
    refine ⟨by rw [r 243 (by decide) (by decide) (by decide)]; exact h1, by rw [r 244 (by decide) (by decide) (by decide)]; exact h2, by rw [r2 2 (by decide)]; exact h3, ⟨g, h4, by rw [r2 8 (by decide)]; exact h5⟩, ?_⟩
    rw [r2 10 (by decide), r 247 (by decide) (by decide) (by decide)]
    exact h6
  refine r_gI hK (i := 242) (c := 12) rfl ?_
  rw [o2]
  refine rn_eq m_in ?_
  refine rn_ite (fun q => rr_says hK hri hm) (fun q => ?_)
  have q : ¬ (x < 0 ∨ nI (oddP R (T0 R) (nn R 0)).length ≤ x) := fun r => q (ite01.mpr (r.imp id (fun r => (lt_pred (by omega)).mpr r)))
  obtain ⟨k, hk, rfl, -⟩ := st_of (by omega) q
  refine r_gP hK 242 12 15 252 rfl (by decide) ?_
  refine rn_eq (q_aT (ks_a hK 252 0 60 rfl) k rfl (by omega) (by decide)) ?_
  exact rr_says hK hri hm
theorem k_odd {x : Int32} (hN2 : 300 ≤ N) (h : CI s z ow R K u y cc) (hR : WF R) : Rn (f_X11_odd N s.1 z x s.2) (KR z R K u cc s) := by
  have hK := h.1
  have n0 := hR.1.1.2
  have hlen := oddP_len (R := R) (T := T0 R) (nn R 0)
  rw [← oddl_eq hR.2.2.1 hR.1] at hlen
  unfold f_X11_odd
  refine rn_t (ks_o hK 0 11 rfl) ?_
  refine r_gP hK 0 11 4 201 rfl (by decide) ?_
  refine rn_bind (k_list (by omega) hK hR.1 hR.2.2.1 h.2.2.1.2.1 h.2.2.2.2.2.2.2.2.1) (fun r hr => ?_)
  obtain ⟨l1, l2, l3, l4, l5⟩ := hr
  have ht : PRt r.2 z R := prt_lf h l1
  have q := ci_pr h (l1.fd h.2.1) (by rw [l1.1]) (Or.inr ⟨l3, l4, l5⟩) ht (l1.2.2 7 (by decide) (by decide))
  refine r_gP hK 0 11 4 201 rfl (by decide) ?_
  refine rn_bind (P := fun _ => True) ?_ (fun v _ => ?_)
  · unfold f_X4_oddAt
    refine rn_t (ks_o hK 201 4 rfl) ?_
    refine rn_ite (fun _ => rn_some trivial) (fun h1 => ?_)
    refine r_gI hK (i := 201) (c := 4) rfl ?_
    rw [l4]
    refine rn_ite (fun _ => rn_some trivial) (fun h2 => ?_)
    obtain ⟨k, hk, rfl, -⟩ := st_of (by omega) (fun r => r.elim h1 h2)
    refine r_gP hK 201 4 2 202 rfl (by decide) ?_
    exact rn_eq (q_aT (ks_a hK 202 0 60 rfl) k rfl (by omega) (by decide)) (rn_some trivial)
  · refine rn_bind (k_answer hK) (fun r2 hr2 => rn_some ?_)
    exact kr_lg q.1 q.2 hr2
end OK
