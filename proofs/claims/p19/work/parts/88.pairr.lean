/-! PAIRS, the reference -/
noncomputable def oC (R : Nat → Int32) (k : Nat) : Nat := (oddl R).getD k 0
def fpS (R : Nat → Int32) (S j : Nat) : Prop := S.testBit j = true ∧ lowB S < j ∧ gO R (lowB S) j + LSx R (rm2 S (lowB S) j) = LSx R S
noncomputable def fpJ (R : Nat → Int32) (S : Nat) : Nat := Classical.epsilon (fun j => fpS R S j ∧ ∀ j', fpS R S j' → j ≤ j')
noncomputable def prX (R : Nat → Int32) : Nat → Nat → List (Nat × Nat)
  | 0, _ => []
  | k + 1, S => if S = 0 then [] else (oC R (lowB S), oC R (fpJ R S)) :: prX R k (rm2 S (lowB S) (fpJ R S))
/-- pairs in two rows -/
def PA (d : Dt) (a1 a2 : Nat) (l : List (Nat × Nat)) : Prop := ∀ k, k < l.length → d.1 a1 k = nI (l.getD k (0, 0)).1 ∧ d.1 a2 k = nI (l.getD k (0, 0)).2
/-- every two ODD CROSSINGS are joined -/
def GF (R : Nat → Int32) : Prop := ∀ i j, i < (oddl R).length → j < (oddl R).length → gO R i j ≤ 600000
section PRs
variable {Q : Dt → Prop} {sh : Sh} {d d0 d' : Dt} {z : Nat} {R K : Nat → Int32} {u : Bool} {N a b S i j k m p q : Nat} {l : List (Nat × Nat)}
theorem way_loop9 (hK : KS sh z) (hN : WN R) (hW : WS R) (hA : AG (d.1 (z + 243)) R) : ∀ (m i fu : Nat) (v : Int32), i + m = nn R 1 → m < fu → ((v = 0 ∧ ∀ s, s < i → R (16 + 9 * s + 4) = 0 → R (16 + 9 * s + 5) = 0) ∨ (v = 1 ∧ ¬ BW R)) → Rn (f_X12_isOneWay_4 N sh d fu (z + 242) v (nI i)) (fun r => (r = 0 ∧ BW R) ∨ (r = 1 ∧ ¬ BW R))
  | 0, i, fu, v, hi, hf, hv => by
    obtain ⟨fu, rfl⟩ : ∃ q, fu = q + 1 := ⟨fu - 1, by omega⟩
    show Rn (g_X12_isOneWay_4 N sh (f_X12_isOneWay_4 N sh d fu) (z + 242) v (nI i) d) _
    have n1 := hN.2.1
    unfold g_X12_isOneWay_4
    refine rdg hK hA 1 rfl (by decide) ?_
    rw [n1.1]
    refine rn_t ((nI_leI (by omega) (by omega)).mpr (by omega)) ?_
    unfold f_X12_isOneWay_54
    have e : i = nn R 1 := by omega
    subst e
    rcases hv with ⟨rfl, hv⟩ | ⟨rfl, hv⟩
    · exact ⟨0, rfl, Or.inl ⟨rfl, hv⟩⟩
    · exact ⟨1, rfl, Or.inr ⟨rfl, hv⟩⟩
  | m + 1, i, fu, v, hi, hf, hv => by
    obtain ⟨fu, rfl⟩ : ∃ q, fu = q + 1 := ⟨fu - 1, by omega⟩
    have ih := way_loop9 hK hN hW hA m (i + 1) fu
    show Rn (g_X12_isOneWay_4 N sh (f_X12_isOneWay_4 N sh d fu) (z + 242) v (nI i) d) _
    have n1 := hN.2.1
    have his : i < nn R 1 := by omega
    obtain ⟨-, -, e5, e4, -⟩ := hW i his
    unfold g_X12_isOneWay_4 f_X12_isOneWay_42 f_X12_isOneWay_46 f_X12_isOneWay_47
    refine rdg hK hA 1 rfl (by decide) ?_
    rw [n1.1, nI_1]
    refine rn_f (nI_ge his (by omega)) ?_
    rcases hv with ⟨rfl, hv⟩ | ⟨rfl, hv⟩
    · have skip : (R (16 + 9 * i + 4) = 0 → R (16 + 9 * i + 5) = 0) → Rn (f_X12_isOneWay_4 N sh d fu (z + 242) 0 (nI (i + 1))) (fun r => (r = 0 ∧ BW R) ∨ (r = 1 ∧ ¬ BW R)) := fun h9 => ih 0 (by omega) (by omega) (Or.inl ⟨rfl, fun s hs ho => by
        by_cases e : s = i
        · rw [e] at ho ⊢
          exact h9 ho
        · exact hv s (by omega) ho⟩)
      refine rn_f (fun q => q rfl) ?_
      refine rn_eq (m_isOpen hK hA (by omega)) ?_
      rcases e4 with e4 | e4
      · rw [if_pos e4]
        refine rn_f (by decide) ?_
        refine rds hK hA 5 (by omega) (by decide) rfl ?_
        rcases e5 with e5 | e5
        · refine rn_t (by rw [e5]; decide) (skip (fun _ => e5))
        · refine rn_f (fun q => q e5) ?_
          refine ih 1 (by omega) (by omega) (Or.inr ⟨rfl, fun hb => ?_⟩)
          have := hb i his e4
          rw [e5] at this
          exact absurd this (by decide)
      · refine rn_t (if_neg (by rw [e4]; decide)) ?_
        exact skip (fun r => by rw [e4] at r; exact absurd r (by decide))
    · refine rn_t (by decide) ?_
      exact ih 1 (by omega) (by omega) (Or.inr ⟨rfl, hv⟩)
theorem m_isOneWay (hN1 : 200 ≤ N) (hK : KS sh z) (hN : WN R) (hW : WS R) (hA : AG (d.1 (z + 243)) R) : Rn (f_X12_isOneWay N sh (z + 242) d) (fun r => (r = 0 ∧ BW R) ∨ (r = 1 ∧ ¬ BW R)) := by
  have n1 := hN.2.1.2
  unfold f_X12_isOneWay
  refine rn_t (ks_o hK 242 12 rfl) ?_
  exact way_loop9 hK hN hW hA (nn R 1) 0 N 0 (by omega) (by omega) (Or.inl ⟨rfl, fun s hs => absurd hs (Nat.not_lt_zero s)⟩)
/-- behind beginTimes(), findOdd(): what stands -/
theorem m_odds (hNf : 15642 < N) (hK : KS sh z) (h : RI d z R K u) (hR : WF R) : Rn (f_X12_beginTimes N sh (z + 242) d) (fun d1 => Rn (f_X12_findOdd N sh (z + 242) d1) (fun d2 => MFR z d d2 ∧ RI d2 z R K u ∧ ODr d2 z R)) := by
  have n0 := hR.1.1.2
  refine rn_mono (m_beginTimes (by omega) hK hR.1 hR.2.2.1 h.1) (fun d1 hd1 => ?_)
  have hA1 : AG (d1.1 (z + 243)) R := by rw [hd1.1.2 (z + 243) (by omega)]; exact h.1
  refine rn_mono (m_findOdd (by omega) hK hR.1 hR.2.2.1 hA1 hd1.2 (fun s hs => by have := T0_le hR.2.2.1 hs; omega)) (fun d2 hd2 => ?_)
  obtain ⟨o1, o2, o3⟩ := hd2
  refine ⟨⟨by rw [o1.1, hd1.1.1], by rw [o1.1, hd1.1.1], fun a q => ⟨by rw [o1.2.1 a (by omega) (by omega)]; exact hd1.1.2 a (by omega), by rw [o1.1, hd1.1.1]⟩⟩, ?_, ?_, ?_⟩
  · obtain ⟨h1, h2, h3, ⟨g, h4, h5⟩, h6⟩ := h
    have r : ∀ i, i ≠ 242 → i ≠ 251 → i ≠ 252 → d2.1 (z + i) = d.1 (z + i) := fun i q1 q2 q3 => by
      rw [o1.2.1 (z + i) (by omega) (by omega)]
      exact hd1.1.2 (z + i) (by omega)
    have r2 : ∀ k, k ≠ 16 → d2.1 (z + 242) k = d.1 (z + 242) k := fun k q => by
      rw [o1.2.2 k q, hd1.1.2 (z + 242) (by omega)]
    refine ⟨by rw [r 243 (by decide) (by decide) (by decide)]; exact h1, by rw [r 244 (by decide) (by decide) (by decide)]; exact h2, by rw [r2 2 (by decide)]; exact h3, ⟨g, h4, by rw [r2 8 (by decide)]; exact h5⟩, ?_⟩
    rw [r2 10 (by decide), r 247 (by decide) (by decide) (by decide)]
    exact h6
  · rw [oddl_eq hR.2.2.1 hR.1]
    exact o2
  · rw [oddl_eq hR.2.2.1 hR.1]
    exact o3
theorem oddl_len (hW : WS R) (hN : WN R) : (oddl R).length ≤ 60 := by
  have n0 := hN.1.2
  rw [oddl_eq hW hN]
  have := oddP_len (R := R) (T := T0 R) (nn R 0)
  omega
theorem m_least {x : Int32} (hNf : 2 ^ 40 ≤ N) (hK : KS sh z) (h : RI d z R K u) (hR : WF R) : Rn (f_X12_least N sh (z + 242) x d) (RR z R K u d) := by
  have hol := oddl_len hR.2.2.1 hR.1
  unfold f_X12_least
  refine rn_t (ks_o hK 242 12 rfl) ?_
  refine rn_bind (m_odds (by omega) hK h hR) (fun d1 hd1 => ?_)
  refine rn_bind hd1 (fun d2 hd2 => ?_)
  obtain ⟨hm, hri, hod⟩ := hd2
  refine r_gI hK (i := 242) (c := 12) rfl ?_
  rw [hod.1]
  refine rn_ite (fun _ => rr_refuses hK hri hm) (fun q1 => ?_)
  have hm14 : (oddl R).length ≤ 14 := Nat.le_of_not_lt (fun r => q1 (nI_lt (a := 14) r (by omega)))
  refine r_gI hK (i := 242) (c := 12) rfl ?_
  rw [hod.1, sb_pow (by omega)]
  have hp14 : 2 ^ (oddl R).length ≤ 2 ^ 14 := Nat.pow_le_pow_right (by decide) hm14
  have hp0 : 0 < 2 ^ (oddl R).length := Nat.two_pow_pos _
  refine rn_eq m_in ?_
  refine rn_ite (fun _ => rr_refuses hK hri hm) (fun q2 => ?_)
  have q2 : ¬ (x < 0 ∨ nI (2 ^ (oddl R).length) ≤ x) := fun r => q2 (ite01.mpr (r.imp id (fun r => (lt_pred (by omega)).mpr r)))
  obtain ⟨B, hB, rfl, -⟩ := st_of (by omega) q2
  refine rn_bind (m_isOneWay (by omega) hK hR.1 hR.2.2.1 hri.1) (fun v _ => ?_)
  refine rn_ite (fun _ => ?_) (fun _ => rr_refuses hK hri hm)
  refine rn_bind (m_reckon hNf hK hri hR) (fun d3 hd3 => ?_)
  obtain ⟨k1, k2, k3⟩ := hd3
  have hod3 : ODr d3 z R := by
    unfold ODr OL
    rw [k1.2.2 16 (by decide), k1.2.1 (z + 252) (by omega) (by omega)]
    exact hod
  refine rn_bind (m_findLeast (by omega) hK hR.1 hR.2.2.1 ⟨k2.1, k3⟩ hod3 hm14 hB) (fun d4 hd4 => ?_)
  have hri4 : RI d4 z R K u := by
    obtain ⟨h1, h2, h3, ⟨g, h4, h5⟩, h6⟩ := k2
    have r : ∀ i, i ≠ 254 → d4.1 (z + i) = d3.1 (z + i) := fun i q => hd4.1.2 (z + i) (by omega)
    refine ⟨by rw [r 243 (by decide)]; exact h1, by rw [r 244 (by decide)]; exact h2, by rw [r 242 (by decide)]; exact h3, ⟨g, h4, by rw [r 242 (by decide)]; exact h5⟩, ?_⟩
    rw [r 242 (by decide), r 247 (by decide)]
    exact h6
  have hm4 : MFR z d d4 := hm.tr (k1.mfr.tr ⟨by rw [hd4.1.1], by rw [hd4.1.1], fun a q => ⟨hd4.1.2 a (by omega), by rw [hd4.1.1]⟩⟩)
  refine r_gP hK 242 12 18 254 rfl (by decide) ?_
  refine rn_eq (q_aT (ks_a hK 254 0 16384 rfl) B rfl (by omega) (by decide)) ?_
  refine rn_ite (fun _ => ?_) (fun _ => rr_refuses hK hri4 hm4)
  refine r_gP hK 242 12 18 254 rfl (by decide) ?_
  refine rn_eq (q_aT (ks_a hK 254 0 16384 rfl) B rfl (by omega) (by decide)) ?_
  exact rr_says hK hri4 hm4
/-! the PAIRS of few -/
theorem getP_app {x e : Nat × Nat} (hk : k < l.length) : (l ++ [x]).getD k e = l.getD k e := by
  simp [List.getD, List.getElem?_append_left hk]
theorem getP_last {x e : Nat × Nat} : (l ++ [x]).getD l.length e = x := by
  simp [List.getD]
/-- what the pairing of the reference touches -/
def QF (z : Nat) (d d' : Dt) : Prop := d'.2 = d.2 ∧ (∀ a, a ≠ z + 242 → a ≠ z + 254 → a ≠ z + 255 → a ≠ z + 256 → d'.1 a = d.1 a) ∧ ∀ k, k ≠ 20 → k ≠ 21 → d'.1 (z + 242) k = d.1 (z + 242) k
theorem QF.rf : QF z d d := ⟨rfl, fun _ _ _ _ _ => rfl, fun _ _ _ => rfl⟩
theorem QF.tr {d1 d2 : Dt} (h1 : QF z d d1) (h2 : QF z d1 d2) : QF z d d2 := ⟨h2.1.trans h1.1, fun a q1 q2 q3 q4 => (h2.2.1 a q1 q2 q3 q4).trans (h1.2.1 a q1 q2 q3 q4), fun k q1 q2 => (h2.2.2 k q1 q2).trans (h1.2.2 k q1 q2)⟩
theorem SF.qf (h : SF z d d') : QF z d d' := ⟨h.1, fun a _ q _ _ => h.2 a q, fun k _ _ => by rw [h.2 (z + 242) (by omega)]⟩
theorem QF.rc (h : QF z d d') (hR : RCx d z R) : RCx d' z R := by
  unfold RCx
  rw [h.2.1 (z + 243) (by omega) (by omega) (by omega) (by omega), h.2.1 (z + 247) (by omega) (by omega) (by omega) (by omega)]
  exact hR
theorem QF.od (h : QF z d d') (hO : ODr d z R) : ODr d' z R := by
  unfold ODr OL
  rw [h.2.2 16 (by decide) (by decide), h.2.1 (z + 252) (by omega) (by omega) (by omega) (by omega)]
  exact hO
theorem m_pairsUp (hK : KS sh z) (hk : k < 30) (hp : p < 60) (hq : q < 60) : f_X12_pairsUp N sh (z + 242) (nI k) (nI p) (nI q) d = some (wI (wI d (z + 255) k (nI (min p q))) (z + 256) k (nI (max p q))) := by
  have ls : (if nI q ≤ nI p then nI q else nI p) = nI (min p q) := by
    by_cases r : q ≤ p
    · rw [if_pos ((nI_leI (by omega) (by omega)).mpr r), Nat.min_eq_right r]
    · rw [if_neg (fun r9 => r ((nI_leI (by omega) (by omega)).mp r9)), Nat.min_eq_left (by omega)]
  refine rn_val ?_
  unfold f_X12_pairsUp
  refine rn_t (ks_o hK 242 12 rfl) ?_
  refine r_gP hK 242 12 22 255 rfl (by decide) ?_
  refine rn_eq m_lesser ?_
  rw [ls]
  refine rn_eq (q_sI (ks_a hK 255 0 30 rfl) k rfl hk (by decide)) ?_
  refine r_gP hK 242 12 23 256 rfl (by decide) ?_
  refine rn_eq m_lesser ?_
  rw [ls, nI_add, pk_sub (by omega)]
  refine rn_eq (q_sI (ks_a hK 256 0 30 rfl) k rfl hk (by decide)) ?_
  refine rn_some ?_
  rw [show p + q - min p q = max p q by omega]
theorem fpJ_ok (h : ∃ j, fpS R S j) : fpS R S (fpJ R S) ∧ ∀ j', fpS R S j' → fpJ R S ≤ j' := by
  obtain ⟨s, hs⟩ := h
  obtain ⟨m, h1, h2⟩ := least_ex (P := fun s => fpS R S s) s s (Nat.le_refl _) hs
  exact Classical.epsilon_spec (p := fun j => fpS R S j ∧ ∀ j', fpS R S j' → j ≤ j') ⟨m, h1, h2⟩
theorem LS_fin (hG : GF R) (hm : (oddl R).length ≤ 14) (hS : S < 2 ^ (oddl R).length) (he : pcN S (oddl R).length % 2 = 0) : LSx R S ≤ 8400000 := by
  have := lsF_even (g := gO R) (m := (oddl R).length) hG (oddl R).length S 0 (in_of_lt hS) (by omega) he
  unfold LSx
  have : 600000 * (oddl R).length ≤ 600000 * 14 := Nat.mul_le_mul_left _ hm
  omega
theorem fp_ex (hG : GF R) (hm : (oddl R).length ≤ 14) (hS : S < 2 ^ (oddl R).length) (he : pcN S (oddl R).length % 2 = 0) (h0 : S ≠ 0) : ∃ j, fpS R S j := by
  have hf := LS_fin hG hm hS he
  unfold LSx at hf
  rw [lsF_eq (in_of_lt hS) h0] at hf
  obtain ⟨j, h1, h2, h3⟩ := mnJ_at _ hf (by omega)
  rw [Bool.and_eq_true, decide_eq_true_iff] at h2
  refine ⟨j, h2.2, h2.1, ?_⟩
  unfold LSx
  rw [lsF_eq (in_of_lt hS) h0]
  exact h3
theorem pl_in {k14 : Nat → Int32 → Dt → Option Dt} (hK : KS sh z) (hN : WN R) (hW : WS R) (hR : RCx d z R) (hO : ODr d z R) (hm : (oddl R).length ≤ 14) (hS : S < 2 ^ (oddl R).length) (h0 : S ≠ 0) (hL : ∀ S', S' ≤ S → d.1 (z + 254) S' = nI (min (LSx R S') (2 ^ 28))) (hfin : LSx R S ≤ 8400000) (hJ : ∃ j, fpS R S j) (hk : Rn (f_X12_pairsLeast_81 N sh k14 (z + 242) (nI S) (nI (lowB S)) (nI (fpJ R S)) d) Q) : ∀ (p j fu : Nat), j + p = fpJ R S → p < fu → lowB S < j → Rn (f_X12_pairsLeast_27 N sh k14 fu (z + 242) (nI S) (nI (lowB S)) (nI j) d) Q
  | p, j, 0, hj, hf, hlj => absurd hf (Nat.not_lt_zero p)
  | p, j, fu + 1, hj, hf, hlj => by
    show Rn (g_X12_pairsLeast_27 N sh k14 (f_X12_pairsLeast_27 N sh k14 fu) (z + 242) (nI S) (nI (lowB S)) (nI j) d) _
    have hS14 : S < 2 ^ 14 := Nat.lt_of_lt_of_le hS (Nat.pow_le_pow_right (by decide) hm)
    obtain ⟨f1, f2⟩ := fpJ_ok hJ
    have hfm := (in_of_lt hS _ f1.1).2
    have hbit := sb_bit (S := S) (j := j) (by omega) (by omega)
    have srt := oddl_sort hW hN
    have next : 0 < p → Rn (f_X12_pairsLeast_75 N sh k14 (f_X12_pairsLeast_27 N sh k14 fu) (z + 242) (nI S) (nI (lowB S)) (nI j) d) Q := fun hp => by
      unfold f_X12_pairsLeast_75
      rw [nI_1]
      exact pl_in hK hN hW hR hO hm hS h0 hL hfin hJ hk (p - 1) (j + 1) fu (by omega) (by omega) (by omega)
    unfold g_X12_pairsLeast_27
    refine rn_ite (fun q => ?_) (fun q => ?_)
    · refine next ?_
      rcases Nat.eq_zero_or_pos p with e | e
      · have ej : j = fpJ R S := by omega
        rw [ej] at hbit q
        exact absurd (f1.1.symm.trans (hbit.2.mp q)) (by decide)
      · exact e
    · have q : S.testBit j = true := by
        by_cases r : S.testBit j = true
        · exact r
        · exact absurd (hbit.2.mpr (bool_f r)) q
      have hjm : j < (oddl R).length := by omega
      refine r_gP hK 242 12 15 252 rfl (by decide) ?_
      refine rn_eq (q_aT (ks_a hK 252 0 60 rfl) (lowB S) rfl (by omega) (by decide)) ?_
      refine r_gP hK 242 12 15 252 rfl (by decide) ?_
      refine rn_eq (q_aT (ks_a hK 252 0 60 rfl) j rfl (by omega) (by decide)) ?_
      rw [hO.2 _ (by omega), hO.2 _ hjm]
      refine rn_eq (m_between hK hN hR (srt.1 _ (by omega)) (srt.1 _ hjm) (Nat.le_of_lt (srt.2 _ _ hlj hjm))).1 ?_
      have hrl := rm2_lt q h0 hlj
      refine r_gP hK 242 12 18 254 rfl (by decide) ?_
      refine rn_eq (q_aT (ks_a hK 254 0 16384 rfl) (rm2 S (lowB S) j) (sb_rm (by omega) (by omega)) (by omega) (by decide)) ?_
      refine r_gP hK 242 12 18 254 rfl (by decide) ?_
      refine rn_eq (q_aT (ks_a hK 254 0 16384 rfl) S rfl (by omega) (by decide)) ?_
      rw [hL _ (by omega), hL _ (Nat.le_refl _), nI_add]
      have eqv : (nI (min (gO R (lowB S) j) (2 ^ 28) + min (LSx R (rm2 S (lowB S) j)) (2 ^ 28)) = nI (min (LSx R S) (2 ^ 28))) ↔ fpS R S j := by
        rw [nI_eq (by omega) (by omega)]
        unfold fpS
        constructor
        · intro r
          exact ⟨q, hlj, by omega⟩
        · intro r
          omega
      refine rn_ite (fun r => ?_) (fun r => ?_)
      · have := f2 j (eqv.mp r)
        have ej : j = fpJ R S := by omega
        rw [ej]
        exact hk
      · refine next ?_
        rcases Nat.eq_zero_or_pos p with e | e
        · have ej : j = fpJ R S := by omega
          rw [ej] at eqv r
          exact absurd (eqv.mpr f1) r
        · exact e
theorem pl_loop (hN1 : 20000 ≤ N) (hK : KS sh z) (hN : WN R) (hW : WS R) (hR : RCx d0 z R) (hO : ODr d0 z R) (hm : (oddl R).length ≤ 14) (hG : GF R) : ∀ (k fu S : Nat) (d : Dt) (l : List (Nat × Nat)), k < fu → S < 2 ^ (oddl R).length → pcN S (oddl R).length % 2 = 0 → pcN S (oddl R).length ≤ 2 * k → l.length + k ≤ 30 → QF z d0 d → (∀ S', S' ≤ S → d.1 (z + 254) S' = nI (min (LSx R S') (2 ^ 28))) → d.1 (z + 242) 21 = nI l.length → PA d (z + 255) (z + 256) l → Rn (f_X12_pairsLeast_14 N sh fu (z + 242) (nI S) d) (fun d' => QF z d0 d' ∧ d'.1 (z + 242) 21 = nI (l ++ prX R k S).length ∧ PA d' (z + 255) (z + 256) (l ++ prX R k S) ∧ d'.1 (z + 242) 20 = d.1 (z + 242) 20)
  | k, 0, S, d, l, hf, hS, he, hp, hl, hM, hL, h21, hP => absurd hf (Nat.not_lt_zero k)
  | k, fu + 1, S, d, l, hf, hS, he, hp, hl, hM, hL, h21, hP => by
    show Rn (g_X12_pairsLeast_14 N sh (f_X12_pairsLeast_14 N sh fu) (z + 242) (nI S) d) _
    have hS14 : S < 2 ^ 14 := Nat.lt_of_lt_of_le hS (Nat.pow_le_pow_right (by decide) hm)
    unfold g_X12_pairsLeast_14
    by_cases h0 : S = 0
    · refine rn_t (by rw [h0]; rfl) ?_
      have e : prX R k S = [] := by
        cases k with
        | zero => rfl
        | succ k =>
          show (if S = 0 then [] else _) = []
          rw [if_pos h0]
      rw [e, List.append_nil]
      exact rn_some ⟨hM, h21, hP, rfl⟩
    · refine rn_f (nI_ne0 (by omega) (by omega)) ?_
      obtain ⟨a1, a2⟩ := lowB_ok h0
      have hlm := (in_of_lt hS _ a1).2
      have hfin := LS_fin hG hm hS he
      have hex := fp_ex hG hm hS he h0
      obtain ⟨f1, f2⟩ := fpJ_ok hex
      have hfm := (in_of_lt hS _ f1.1).2
      have pcr := pc_rm a1 f1.1 (by have := f1.2.1; omega) (oddl R).length
      rw [if_pos hlm, if_pos hfm] at pcr
      have hrl := rm2_lt f1.1 h0 f1.2.1
      obtain ⟨k, rfl⟩ : ∃ k', k = k' + 1 := ⟨k - 1, by omega⟩
      have srt := oddl_sort hW hN
      have n0 := hN.1.2
      have hRd := hM.rc hR
      have hOd := hM.od hO
      refine rn_eq (m_lowest (by omega) hS14 h0).1 ?_
      rw [nI_1]
      refine pl_in hK hN hW hRd hOd hm hS h0 hL hfin hex ?_ (fpJ R S - (lowB S + 1)) (lowB S + 1) N (by have := f1.2.1; omega) (by omega) (by omega)
      unfold f_X12_pairsLeast_81
      refine r_gI hK (i := 242) (c := 12) rfl ?_
      refine r_gP hK 242 12 15 252 rfl (by decide) ?_
      refine rn_eq (q_aT (ks_a hK 252 0 60 rfl) (lowB S) rfl (by omega) (by decide)) ?_
      refine r_gP hK 242 12 15 252 rfl (by decide) ?_
      refine rn_eq (q_aT (ks_a hK 252 0 60 rfl) (fpJ R S) rfl (by omega) (by decide)) ?_
      rw [hOd.2 _ hlm, hOd.2 _ hfm, h21]
      have s1 := srt.1 _ hlm
      have s2 := srt.1 _ hfm
      have s3 := srt.2 _ _ f1.2.1 hfm
      refine rn_eq (m_pairsUp hK (by omega) (by omega) (by omega)) ?_
      rw [Nat.min_eq_left (by omega), Nat.max_eq_right (by omega)]
      refine r_gI hK (i := 242) (c := 12) rfl ?_
      refine r_pI hK (i := 242) (c := 12) rfl ?_
      have e21 : ∀ x y, (wI (wI d (z + 255) l.length x) (z + 256) l.length y).1 (z + 242) = d.1 (z + 242) := fun x y => by
        rw [wI_n (by omega), wI_n (by omega)]
      rw [e21, h21, nI_1, sb_pow (show lowB S < 31 by omega), sb_pow (show fpJ R S < 31 by omega), sb_xor, sb_xor]
      have ex : S ^^^ (2 ^ lowB S ^^^ 2 ^ fpJ R S) = rm2 S (lowB S) (fpJ R S) := by
        unfold rm2
        rw [Nat.xor_assoc]
      rw [ex]
      have epr : prX R (k + 1) S = (oC R (lowB S), oC R (fpJ R S)) :: prX R k (rm2 S (lowB S) (fpJ R S)) := by
        show (if S = 0 then [] else _) = _
        rw [if_neg h0]
      have := pl_loop hN1 hK hN hW hR hO hm hG k fu (rm2 S (lowB S) (fpJ R S)) (wI (wI (wI d (z + 255) l.length (nI ((oddl R).getD (lowB S) 0))) (z + 256) l.length (nI ((oddl R).getD (fpJ R S) 0))) (z + 242) 21 (nI (l.length + 1))) (l ++ [(oC R (lowB S), oC R (fpJ R S))]) (by omega) (by omega) (by omega) (by omega) (by simp; omega) (hM.tr ⟨rfl, fun a q1 q2 q3 q4 => by rw [wI_n q1, wI_n q4, wI_n q3], fun j q1 q2 => by rw [wI_s, va_up_n q2, e21]⟩) (fun S' hS' => ?_) ?_ (fun x hx => ?_)
      · rw [List.append_assoc, List.singleton_append] at this
        rw [epr]
        refine rn_mono this (fun d' hd' => ⟨hd'.1, hd'.2.1, hd'.2.2.1, hd'.2.2.2.trans ?_⟩)
        rw [wI_s, va_up_n (by decide), e21]
      · rw [wI_n (by omega), wI_n (by omega), wI_n (by omega)]
        exact hL S' (by omega)
      · rw [wI_s, va_up_s]
        simp
      · rw [wI_n (by omega), wI_n (by omega), wI_s, wI_n (by omega), wI_s, wI_n (by omega)]
        by_cases e : x = l.length
        · rw [e, va_up_s, va_up_s, getP_last]
          exact ⟨rfl, rfl⟩
        · have hx2 : x < l.length := by simp at hx; omega
          rw [va_up_n e, va_up_n e, getP_app hx2]
          exact hP x hx2
end PRs
