/-! PAIRS of the class -/
def KPF (z : Nat) (d d' : Dt) : Prop := d'.2 = d.2 ∧ (∀ a, a ≠ z + 201 → a ≠ z + 219 → a ≠ z + 220 → d'.1 a = d.1 a) ∧ ∀ k, k ≠ 10 → k ≠ 11 → d'.1 (z + 201) k = d.1 (z + 201) k
section KPR
variable {s s' : AS} {sh : Sh} {d d0 d' : Dt} {z : Nat} {ow ow' : Nat → Nat} {R K : Nat → Int32} {u : Bool} {y : YL} {N n m k i j c p q x e v a b S cc : Nat} {P : Nat → Nat × Nat} {T : Nat → Nat}
theorem KPF.rf : KPF z d d := ⟨rfl, fun _ _ _ _ => rfl, fun _ _ _ => rfl⟩
theorem KPF.tr {d1 d2 : Dt} (h1 : KPF z d d1) (h2 : KPF z d1 d2) : KPF z d d2 := ⟨h2.1.trans h1.1, fun a q1 q2 q3 => (h2.2.1 a q1 q2 q3).trans (h1.2.1 a q1 q2 q3), fun k q1 q2 => (h2.2.2 k q1 q2).trans (h1.2.2 k q1 q2)⟩
theorem KPF.w {k : Nat} {v : Int32} (hk : k = 10 ∨ k = 11) : KPF z d (wI d (z + 201) k v) := ⟨rfl, fun a q _ _ => wI_n q, fun j q1 q2 => by rw [wI_s, va_up_n (by omega)]⟩
theorem KPF.w1 {k : Nat} {v : Int32} : KPF z d (wI d (z + 219) k v) := ⟨rfl, fun a _ q _ => wI_n q, fun j _ _ => by rw [wI_n (by omega)]⟩
theorem KPF.w2 {k : Nat} {v : Int32} : KPF z d (wI d (z + 220) k v) := ⟨rfl, fun a _ _ q => wI_n q, fun j _ _ => by rw [wI_n (by omega)]⟩
theorem KPF.fd (h : KPF z d d') (hw : OWS ow z) : FD (IX z ow 201 220) d d' := fun a ha => by
  have q : ∀ i, i = 201 ∨ i = 219 ∨ i = 220 → a ≠ z + i := fun i hi e => by
    refine ha ?_
    rw [e]
    unfold IX
    rcases hi with rfl | rfl | rfl
    · rw [onr_s (hw 201 (by decide) (by decide)) (by decide)]
      omega
    · rw [onr_s (hw 219 (by decide) (by decide)) (by decide)]
      omega
    · rw [onr_s (hw 220 (by decide) (by decide)) (by decide)]
      omega
  exact ⟨h.2.1 a (q 201 (Or.inl rfl)) (q 219 (Or.inr (Or.inl rfl))) (q 220 (Or.inr (Or.inr rfl))), by rw [h.1], by rw [h.1], by rw [h.1]⟩
theorem ci_kp (h : CI s z ow R K u y cc) (l : KPF z s.2 d') : CI (s.1, d') z ow R K u y cc ∧ RFR z s (s.1, d') := by
  refine ci_pr h (l.fd h.2.1) (by rw [l.1]) ?_ ?_ (l.2.2 7 (by decide) (by decide))
  · obtain ⟨hK, hw, b1, b2, b3, b4, b5, b6, b7, b8, b9, b10, b11⟩ := h
    unfold PRl
    rw [l.2.2 4 (by decide) (by decide), l.2.2 3 (by decide) (by decide), l.2.1 (z + 202) (by omega) (by omega) (by omega)]
    exact b7
  · obtain ⟨hK, hw, b1, b2, b3, b4, b5, b6, b7, b8, b9, b10, b11⟩ := h
    rcases b8 with q | ⟨q, h1, h2, a, h3, h4⟩
    · left
      rw [l.2.2 7 (by decide) (by decide)]
      exact q
    · right
      obtain ⟨-, -, ⟨a', t1, t2, t3, t4, t5, t6⟩, -⟩ := b3
      have ea : a' = a := by
        rw [h3] at t1
        exact (Option.some.inj t1).symm
      subst ea
      have x : ∀ i, i = 201 ∨ i = 219 ∨ i = 220 → a' ≠ z + i := fun i hi e => by
        have : ow (z + i) = 0 := by
          rcases hi with rfl | rfl | rfl
          · exact hw 201 (by decide) (by decide)
          · exact hw 219 (by decide) (by decide)
          · exact hw 220 (by decide) (by decide)
        rw [e, this] at t2
        omega
      refine ⟨by rw [l.2.2 7 (by decide) (by decide)]; exact q, h1, fun i j hij hj => ?_, a', by rw [l.1]; exact h3, fun S hS => ?_⟩
      · rw [l.2.1 (z + (204 + i)) (by omega) (by omega) (by omega)]
        exact h2 i j hij hj
      · rw [l.2.1 a' (x 201 (Or.inl rfl)) (x 219 (Or.inr (Or.inl rfl))) (x 220 (Or.inr (Or.inr rfl)))]
        exact h4 S hS
theorem KPF.go (h : KPF z d d') (hG : GO d z R) (hlt : ∀ b, inO R b → b < 60) : GO d' z R := fun b hb a ha => by
  have := hlt b hb
  rw [h.2.1 (z + (141 + b)) (by omega) (by omega) (by omega)]
  exact hG b hb a ha
theorem k_addPair (hK : KS sh z) (h10 : d.1 (z + 201) 10 = nI n) (hn : n < 30) (hP : PG d (z + 219) (z + 220) P n) (hp : P n = (p, q)) : Rn (f_X4_addPair N sh (z + 201) (nI p) (nI q) d) (fun d' => KPF z d d' ∧ d'.1 (z + 201) 10 = nI (n + 1) ∧ PG d' (z + 219) (z + 220) P (n + 1) ∧ d'.1 (z + 201) 11 = d.1 (z + 201) 11) := by
  unfold f_X4_addPair f_X4_addPair_39
  refine rn_t (ks_o hK 201 4 rfl) ?_
  refine r_gI hK (i := 201) (c := 4) rfl ?_
  rw [h10]
  refine rn_f (nI_ge (b := 30) hn (by decide)) ?_
  refine r_gP hK 201 4 8 219 rfl (by decide) ?_
  refine r_gI hK (i := 201) (c := 4) rfl ?_
  rw [h10]
  refine rn_eq (q_sI (ks_a hK 219 0 30 rfl) n rfl hn (by decide)) ?_
  refine r_gP hK 201 4 9 220 rfl (by decide) ?_
  refine r_gI hK (i := 201) (c := 4) rfl ?_
  rw [wI_n (by omega), h10]
  refine rn_eq (q_sI (ks_a hK 220 0 30 rfl) n rfl hn (by decide)) ?_
  refine r_gI hK (i := 201) (c := 4) rfl ?_
  rw [wI_n (by omega), wI_n (by omega), h10, nI_1]
  refine r_pI hK (i := 201) (c := 4) rfl ?_
  refine rn_some ⟨(KPF.w1.tr KPF.w2).tr (KPF.w (Or.inl rfl)), by rw [wI_s, va_up_s], fun k hk => ?_, by rw [wI_s, va_up_n (by decide), wI_n (by omega), wI_n (by omega)]⟩
  rw [wI_n (by omega), wI_n (by omega), wI_s, wI_n (by omega), wI_s, wI_n (by omega)]
  by_cases e : k = n
  · rw [e, va_up_s, va_up_s, hp]
    exact ⟨rfl, rfl⟩
  · rw [va_up_n e, va_up_n e]
    exact hP k (by omega)
/-- what pairing reads -/
def TKK (sh : Sh) (d : Dt) (z : Nat) (R : Nat → Int32) (a : Nat) : Prop := d.1 (z + 201) 3 = nI (oddl R).length ∧ OL d (z + 202) (oddl R) ∧ (∀ c, c < 14 → d.2.2.2 (z + 203) c = some (z + (204 + c))) ∧ (∀ i j, i < j → j < (oddl R).length → d.1 (z + (204 + i)) j = nI (min (gO R i j) 1000000000)) ∧ d.2.2.2 (z + 201) 6 = some a ∧ (isA sh a 0 ∧ 2 ^ (oddl R).length ≤ sh.2.2.1 a ∧ sh.2.2.1 a ≤ 16384) ∧ (∀ S, S < 2 ^ (oddl R).length → d.1 a S = nI (min (LSx R S) 1000000000)) ∧ a ≠ z + 201 ∧ a ≠ z + 219 ∧ a ≠ z + 220
theorem KPF.tk (h : KPF z d d') (hm : (oddl R).length ≤ 14) (hT : TKK sh d z R a) : TKK sh d' z R a := by
  obtain ⟨h1, h2, h3, h4, h5, h6, h7, h8, h9, h10⟩ := hT
  refine ⟨by rw [h.2.2 3 (by decide) (by decide)]; exact h1, ?_, by rw [h.1]; exact h3, fun i j hij hj => ?_, by rw [h.1]; exact h5, h6, fun S hS => ?_, h8, h9, h10⟩
  · unfold OL
    rw [h.2.1 (z + 202) (by omega) (by omega) (by omega)]
    exact h2
  · rw [h.2.1 (z + (204 + i)) (by omega) (by omega) (by omega)]
    exact h4 i j hij hj
  · rw [h.2.1 a h8 h9 h10]
    exact h7 S hS
theorem rm2_rest (h : lowB S < j) : (S ^^^ 2 ^ lowB S) ^^^ 2 ^ j = rm2 S (lowB S) j := rfl
theorem fp_in (hK : KS sh z) (hT : TKK sh d z R a) (hm : (oddl R).length ≤ 14) (hS : S < 2 ^ (oddl R).length) (h0 : S ≠ 0) (hfin : LSx R S ≤ 8400000) (hJ : ∃ j, fpS R S j) : ∀ (p j fu : Nat), j + p = fpJ R S → p < fu → lowB S < j → f_X4_firstPartner_17 N sh d fu (z + 201) (nI S) (nI (lowB S)) (nI (S ^^^ 2 ^ lowB S)) (nI j) = some (nI (fpJ R S))
  | p, j, 0, hj, hf, hlj => absurd hf (Nat.not_lt_zero p)
  | p, j, fu + 1, hj, hf, hlj => by
    refine rn_val ?_
    show Rn (g_X4_firstPartner_17 N sh (f_X4_firstPartner_17 N sh d fu) (z + 201) (nI S) (nI (lowB S)) (nI (S ^^^ 2 ^ lowB S)) (nI j) d) _
    have hS14 : S < 2 ^ 14 := Nat.lt_of_lt_of_le hS (Nat.pow_le_pow_right (by decide) hm)
    obtain ⟨t1, t2, t3, t4, t5, t6, t7, -⟩ := id hT
    obtain ⟨f1, f2⟩ := fpJ_ok hJ
    have hfm := (in_of_lt hS _ f1.1).2
    have hrest := rest_lt hS14 h0
    have hbit := sb_bit (S := S ^^^ 2 ^ lowB S) (j := j) (by omega) (by omega)
    rw [rest_bit hlj] at hbit
    have next : 0 < p → Rn (f_X4_firstPartner_69 N sh (f_X4_firstPartner_17 N sh d fu) (z + 201) (nI S) (nI (lowB S)) (nI (S ^^^ 2 ^ lowB S)) (nI j) d) (fun r => r = nI (fpJ R S)) := fun hp => by
      unfold f_X4_firstPartner_69
      rw [nI_1, fp_in hK hT hm hS h0 hfin hJ (p - 1) (j + 1) fu (by omega) (by omega) (by omega)]
      exact ⟨_, rfl, rfl⟩
    have hjm : j < (oddl R).length := by omega
    unfold g_X4_firstPartner_17 f_X4_firstPartner_66
    refine r_gI hK (i := 201) (c := 4) rfl ?_
    rw [t1]
    refine rn_f (nI_ge hjm (by omega)) ?_
    refine rn_ite (fun q => ?_) (fun q => ?_)
    · refine next ?_
      rcases Nat.eq_zero_or_pos p with e | e
      · have ej : j = fpJ R S := by omega
        rw [ej] at hbit q
        exact absurd (hbit.1.mpr f1.1) q
      · exact e
    · have q : S.testBit j = true := hbit.1.mp (Decidable.of_not_not q)
      refine r_gP hK 201 4 5 203 rfl (by decide) ?_
      have hlo : lowB S < (oddl R).length := by omega
      refine rn_eq (q_aQ (ks_a hK 203 5 14 rfl) (lowB S) (z + (204 + lowB S)) rfl (by omega) (by decide) (t3 _ (by omega))) ?_
      refine rn_eq (q_aT (ks_a hK (204 + lowB S) 0 14 (ck_gps (by omega))) j rfl (by omega) (by decide)) ?_
      rw [t4 _ _ hlj hjm]
      have hrl := rm2_lt q h0 hlj
      refine r_gQ hK a t5 (i := 201) (c := 4) rfl ?_
      have ex : nI (S ^^^ 2 ^ lowB S) ^^^ ((1 : Int32) <<< (nI j &&& 31)) = nI (rm2 S (lowB S) j) := by
        rw [sb_pow (show j < 31 by omega), sb_xor]
        rfl
      rw [ex]
      refine rn_eq (q_aT ⟨t6.1, rfl⟩ (rm2 S (lowB S) j) rfl (by omega) (by omega)) ?_
      refine r_gQ hK a t5 (i := 201) (c := 4) rfl ?_
      refine rn_eq (q_aT ⟨t6.1, rfl⟩ S rfl (by omega) (by omega)) ?_
      rw [t7 _ (by omega), t7 _ hS, nI_add]
      have eqv : (nI (min (gO R (lowB S) j) 1000000000 + min (LSx R (rm2 S (lowB S) j)) 1000000000) = nI (min (LSx R S) 1000000000)) ↔ fpS R S j := by
        rw [nI_eq (by omega) (by omega)]
        unfold fpS
        constructor
        · intro r
          exact ⟨q, hlj, by omega⟩
        · intro r
          omega
      refine rn_ite (fun r => ?_) (fun r => ?_)
      · refine next ?_
        rcases Nat.eq_zero_or_pos p with e | e
        · have ej : j = fpJ R S := by omega
          rw [ej] at eqv r
          exact absurd (eqv.mpr f1) r
        · exact e
      · have := f2 j (eqv.mp (Decidable.of_not_not r))
        have ej : j = fpJ R S := by omega
        rw [ej]
        exact rn_some rfl
theorem k_firstPartner (hN1 : 100 ≤ N) (hK : KS sh z) (hT : TKK sh d z R a) (hm : (oddl R).length ≤ 14) (hS : S < 2 ^ (oddl R).length) (h0 : S ≠ 0) (hfin : LSx R S ≤ 8400000) (hJ : ∃ j, fpS R S j) : f_X4_firstPartner N sh (z + 201) (nI S) d = some (nI (fpJ R S)) := by
  have hS14 : S < 2 ^ 14 := Nat.lt_of_lt_of_le hS (Nat.pow_le_pow_right (by decide) hm)
  obtain ⟨f1, f2⟩ := fpJ_ok hJ
  have hfm := (in_of_lt hS _ f1.1).2
  refine rn_val ?_
  unfold f_X4_firstPartner
  refine rn_t (ks_o hK 201 4 rfl) ?_
  refine rn_eq (k_low hS14 h0) ?_
  rw [sb_rest hS14 h0, nI_1, fp_in hK hT hm hS h0 hfin hJ (fpJ R S - (lowB S + 1)) (lowB S + 1) N (by have := f1.2.1; omega) (by omega) (by omega)]
  exact ⟨_, rfl, rfl⟩
theorem pe_loop (hN1 : 100 ≤ N) (hK : KS sh z) (hm : (oddl R).length ≤ 14) (hG : GF R) : ∀ (k i fu S : Nat) (d : Dt) (l : List (Nat × Nat)), i + k = 7 → k < fu → S < 2 ^ (oddl R).length → pcN S (oddl R).length % 2 = 0 → pcN S (oddl R).length ≤ 2 * k → l.length ≤ i → TKK sh d z R a → d.1 (z + 201) 10 = nI l.length → PG d (z + 219) (z + 220) (fun x => (l ++ prX R k S).getD x (0, 0)) l.length → Rn (f_X4_pairExactly_11 N sh fu (z + 201) (nI S) (nI i) d) (fun d' => KPF z d d' ∧ d'.1 (z + 201) 10 = nI (l ++ prX R k S).length ∧ PG d' (z + 219) (z + 220) (fun x => (l ++ prX R k S).getD x (0, 0)) (l ++ prX R k S).length)
  | k, i, 0, S, d, l, hi, hf, hS, he, hp, hl, hT, h10, hP => absurd hf (Nat.not_lt_zero k)
  | k, i, fu + 1, S, d, l, hi, hf, hS, he, hp, hl, hT, h10, hP => by
    show Rn (g_X4_pairExactly_11 N sh (f_X4_pairExactly_11 N sh fu) (z + 201) (nI S) (nI i) d) _
    have hS14 : S < 2 ^ 14 := Nat.lt_of_lt_of_le hS (Nat.pow_le_pow_right (by decide) hm)
    unfold g_X4_pairExactly_11 f_X4_pairExactly_69
    refine rn_f (nI_ge (b := 14) (by omega) (by decide)) ?_
    by_cases h0 : S = 0
    · refine rn_t (by rw [h0]; rfl) ?_
      have e : prX R k S = [] := by
        cases k with
        | zero => rfl
        | succ k =>
          show (if S = 0 then [] else _) = []
          rw [if_pos h0]
      rw [e, List.append_nil] at hP ⊢
      exact rn_some ⟨KPF.rf, h10, hP⟩
    · refine rn_f (nI_ne0 (by omega) (by omega)) ?_
      obtain ⟨a1, a2⟩ := lowB_ok h0
      have hlm := (in_of_lt hS _ a1).2
      have hfin := LS_fin hG hm hS he
      have hex := fp_ex hG hm hS he h0
      obtain ⟨f1, f2⟩ := fpJ_ok hex
      have hfm := (in_of_lt hS _ f1.1).2
      have pcr := pc_rm a1 f1.1 (by have := f1.2.1; omega) (oddl R).length
      rw [if_pos hlm, if_pos hfm] at pcr
      have hrl := rm2_lt f1.1 h0 f1.2.1
      obtain ⟨k, rfl⟩ : ∃ k', k = k' + 1 := ⟨k - 1, by omega⟩
      have epr : prX R (k + 1) S = (oC R (lowB S), oC R (fpJ R S)) :: prX R k (rm2 S (lowB S) (fpJ R S)) := by
        show (if S = 0 then [] else _) = _
        rw [if_neg h0]
      refine rn_eq (k_firstPartner hN1 hK hT hm hS h0 hfin hex) ?_
      refine rn_t (nI_m1 (by omega)) ?_
      refine r_gP hK 201 4 2 202 rfl (by decide) ?_
      refine rn_eq (k_low hS14 h0) ?_
      refine rn_eq (q_aT (ks_a hK 202 0 60 rfl) (lowB S) rfl (by omega) (by decide)) ?_
      refine r_gP hK 201 4 2 202 rfl (by decide) ?_
      refine rn_eq (q_aT (ks_a hK 202 0 60 rfl) (fpJ R S) rfl (by omega) (by decide)) ?_
      rw [hT.2.1 _ hlm, hT.2.1 _ hfm]
      rw [epr] at hP ⊢
      refine rn_bind (k_addPair (p := oC R (lowB S)) (q := oC R (fpJ R S)) hK h10 (by omega) hP ?_) (fun d2 h2 => ?_)
      · show (l ++ (oC R (lowB S), oC R (fpJ R S)) :: prX R k (rm2 S (lowB S) (fpJ R S))).getD l.length (0, 0) = _
        simp [List.getD]
      · obtain ⟨g1, g2, g3, -⟩ := h2
        have exx : (nI S &&& (nI S - 1)) ^^^ ((1 : Int32) <<< (nI (fpJ R S) &&& 31)) = nI (rm2 S (lowB S) (fpJ R S)) := by
          rw [sb_rest hS14 h0, sb_pow (show fpJ R S < 31 by omega), sb_xor]
          rfl
        rw [exx, nI_1]
        have ea : l ++ (oC R (lowB S), oC R (fpJ R S)) :: prX R k (rm2 S (lowB S) (fpJ R S)) = (l ++ [(oC R (lowB S), oC R (fpJ R S))]) ++ prX R k (rm2 S (lowB S) (fpJ R S)) := by simp
        have el : (l ++ [(oC R (lowB S), oC R (fpJ R S))]).length = l.length + 1 := by simp
        rw [ea] at g3 ⊢
        refine rn_mono (pe_loop hN1 hK hm hG k (i + 1) fu _ d2 (l ++ [(oC R (lowB S), oC R (fpJ R S))]) (by omega) (by omega) (by omega) (by omega) (by omega) (by omega) (g1.tk hm hT) (by rw [el]; exact g2) (by rw [el]; exact g3)) (fun d3 h3 => ⟨g1.tr h3.1, h3.2⟩)
theorem k_pairExactly (hN1 : 100 ≤ N) (hK : KS sh z) (hN : WN R) (hW : WS R) (hm : (oddl R).length ≤ 14) (hG : GF R) (hT : TKK sh d z R a) (h10 : d.1 (z + 201) 10 = 0) : Rn (f_X4_pairExactly N sh (z + 201) d) (fun d' => KPF z d d' ∧ d'.1 (z + 201) 10 = nI (pairsL R).length ∧ PA d' (z + 219) (z + 220) (pairsL R)) := by
  have hp := Nat.two_pow_pos (oddl R).length
  unfold f_X4_pairExactly
  refine rn_t (ks_o hK 201 4 rfl) ?_
  refine r_gI hK (i := 201) (c := 4) rfl ?_
  have e1 : ((1 : Int32) <<< (d.1 (z + 201) 3 &&& 31)) - 1 = nI (2 ^ (oddl R).length - 1) := by
    rw [hT.1, sb_pow (by omega), show nI (2 ^ (oddl R).length) = nI ((2 ^ (oddl R).length - 1) + 1) from congrArg nI (by omega), nI_pred]
  rw [e1]
  have e : pairsL R = [] ++ prX R 7 (2 ^ (oddl R).length - 1) := if_pos hm
  rw [e]
  refine rn_mono (pe_loop hN1 hK hm hG 7 0 N (2 ^ (oddl R).length - 1) d [] rfl (by omega) (by omega) (by rw [pc_full _ (Nat.le_refl _)]; exact oddl_even hW hN) (by rw [pc_full _ (Nat.le_refl _)]; exact hm) (by decide) hT h10 (fun k hk => absurd hk (Nat.not_lt_zero k))) (fun d2 h2 => ⟨h2.1, h2.2.1, h2.2.2⟩)
end KPR
