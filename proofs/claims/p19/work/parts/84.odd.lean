/-! the ODD CROSSINGS -/
def T0 (R : Nat → Int32) (s : Nat) : Nat := if R (16 + 9 * s + 4) = 0 then nn R (16 + 9 * s + 3) else 0
def dgT (R : Nat → Int32) (T : Nat → Nat) (c : Nat) : Nat → Nat
  | 0 => 0
  | s + 1 => dgT R T c s + if eA R s = c ∨ eB R s = c then T s else 0
def oddP (R : Nat → Int32) (T : Nat → Nat) (i : Nat) : List Nat := (List.range i).filter (fun c => dgT R T c (nn R 1) % 2 = 1)
section OD
variable {Q : Dt → Prop} {sh : Sh} {d d0 d' : Dt} {z : Nat} {ow : Nat → Nat} {R K : Nat → Int32} {N c i : Nat} {T T' : Nat → Nat} {L : Nat → Nat}
theorem oddP_s : oddP R T (i + 1) = oddP R T i ++ if dgT R T i (nn R 1) % 2 = 1 then [i] else [] := by
  unfold oddP
  rw [List.range_succ, List.filter_append]
  congr 1
  by_cases h : dgT R T i (nn R 1) % 2 = 1
  · rw [if_pos h]
    simp [h]
  · rw [if_neg h]
    simp [h]
theorem oddP_len : ∀ i, (oddP R T i).length ≤ i
  | 0 => by
    show (List.filter _ (List.range 0)).length ≤ 0
    simp
  | i + 1 => by
    have := oddP_len i
    rw [oddP_s, List.length_append]
    split <;> simp <;> omega
theorem dg_par (h : ∀ s, T' s % 2 = T s % 2) : ∀ i, dgT R T' c i % 2 = dgT R T c i % 2
  | 0 => rfl
  | i + 1 => by
    have h1 := dg_par h i
    have h2 := h i
    show (dgT R T' c i + if eA R i = c ∨ eB R i = c then T' i else 0) % 2 = (dgT R T c i + if eA R i = c ∨ eB R i = c then T i else 0) % 2
    split <;> omega
theorem oddP_par (h : ∀ s, T' s % 2 = T s % 2) : oddP R T' i = oddP R T i := by
  unfold oddP
  congr 1
  funext c
  rw [dg_par h]
theorem dg_le (h : ∀ s, s < nn R 1 → T s ≤ 10000) : ∀ i, i ≤ nn R 1 → dgT R T c i ≤ 10000 * i
  | 0, _ => Nat.le_refl _
  | i + 1, hi => by
    have h1 := dg_le h i (by omega)
    have h2 := h i (by omega)
    show (dgT R T c i + if eA R i = c ∨ eB R i = c then T i else 0) ≤ 10000 * (i + 1)
    split <;> omega
theorem dg_T0 (hW : WS R) (hN : WN R) (hc : c < 60) : ∀ i, i ≤ nn R 1 → dgr R c i = dgT R (T0 R) c i
  | 0, _ => rfl
  | i + 1, hi => by
    have n0 := hN.1.2
    have h1 := dg_T0 hW hN hc i (by omega)
    obtain ⟨e7, a2, e8, b2, hne⟩ := ws_e hW hN (s := i) (by omega)
    show dgr R c i + (if R (16 + 9 * i + 4) = 0 ∧ (R (16 + 9 * i + 7) = nI c ∨ R (16 + 9 * i + 8) = nI c) then nn R (16 + 9 * i + 3) else 0) = dgT R (T0 R) c i + if eA R i = c ∨ eB R i = c then T0 R i else 0
    have xx : (nI (eA R i) = nI c ∨ nI (eB R i) = nI c) ↔ (eA R i = c ∨ eB R i = c) := or_congr (nI_eq (by omega) (by omega)) (nI_eq (by omega) (by omega))
    rw [h1, e7, e8]
    unfold T0
    congr 1
    by_cases q1 : R (16 + 9 * i + 4) = 0
    · by_cases q2 : eA R i = c ∨ eB R i = c
      · rw [if_pos ⟨q1, xx.mpr q2⟩, if_pos q2, if_pos q1]
      · rw [if_neg (fun r => q2 (xx.mp r.2)), if_neg q2]
    · rw [if_neg (fun r => q1 r.1), if_neg q1]
      split <;> rfl
theorem oddl_eq (hW : WS R) (hN : WN R) : oddl R = oddP R (T0 R) (nn R 0) := by
  have n0 := hN.1.2
  unfold oddl oddP
  refine List.filter_congr (fun c hc => ?_)
  have := List.mem_range.mp hc
  rw [dg_T0 hW hN (by omega) _ (Nat.le_refl _)]
def OL (d : Dt) (a : Nat) (l : List Nat) : Prop := ∀ k, k < l.length → d.1 a k = nI (l.getD k 0)
theorem getN_app {l : List Nat} {x e k : Nat} (hk : k < l.length) : (l ++ [x]).getD k e = l.getD k e := by
  simp [List.getD, List.getElem?_append_left hk]
theorem getN_last {l : List Nat} {x e : Nat} : (l ++ [x]).getD l.length e = x := by
  simp [List.getD]
theorem ol_app {a x : Nat} {l : List Nat} (h : OL d a l) : OL (wI d a l.length (nI x)) a (l ++ [x]) := fun k hk => by
  rw [wI_s]
  by_cases e : k = l.length
  · rw [e, va_up_s, getN_last]
  · rw [va_up_n e, getN_app (by simp at hk; omega)]
    exact h k (by simp at hk; omega)
/-- what findOdd() touches -/
def OF (z : Nat) (d d' : Dt) : Prop := d'.2 = d.2 ∧ (∀ a, a ≠ z + 242 → a ≠ z + 252 → d'.1 a = d.1 a) ∧ ∀ k, k ≠ 16 → d'.1 (z + 242) k = d.1 (z + 242) k
theorem OF.rf : OF z d d := ⟨rfl, fun _ _ _ => rfl, fun _ _ => rfl⟩
theorem OF.tr {d1 d2 : Dt} (h1 : OF z d d1) (h2 : OF z d1 d2) : OF z d d2 := ⟨h2.1.trans h1.1, fun a q1 q2 => (h2.2.1 a q1 q2).trans (h1.2.1 a q1 q2), fun k q => (h2.2.2 k q).trans (h1.2.2 k q)⟩
theorem OF.w {v : Int32} : OF z d (wI d (z + 242) 16 v) := ⟨rfl, fun a q _ => wI_n q, fun k q => by rw [wI_s, va_up_n q]⟩
theorem OF.w2 {k : Nat} {v : Int32} : OF z d (wI d (z + 252) k v) := ⟨rfl, fun a _ q => wI_n q, fun k _ => by rw [wI_n (by omega)]⟩
theorem OF.ag (h : OF z d d') (hA : AG (d.1 (z + 243)) R) : AG (d'.1 (z + 243)) R := by
  rw [h.2.1 (z + 243) (by omega) (by omega)]
  exact hA
theorem OF.tv (h : OF z d d') (hT : TV2 z R d T) : TV2 z R d' T := fun s hs => by
  rw [h.2.1 (z + 251) (by omega) (by omega)]
  exact hT s hs
theorem fo_in {k7 : Nat → Int32 → Dt → Option Dt} (hK : KS sh z) (hN : WN R) (hW : WS R) (hA : AG (d.1 (z + 243)) R) (hT : TV2 z R d T) (hc : c < 60) (hk : Rn (f_X12_findOdd_85 N sh k7 (z + 242) (nI c) (nI (dgT R T c (nn R 1))) d) Q) : ∀ (m i fu : Nat), i + m = nn R 1 → m < fu → Rn (f_X12_findOdd_21 N sh k7 fu (z + 242) (nI c) (nI (dgT R T c i)) (nI i) d) Q
  | 0, i, fu, hi, hf => by
    obtain ⟨fu, rfl⟩ : ∃ q, fu = q + 1 := ⟨fu - 1, by omega⟩
    show Rn (g_X12_findOdd_21 N sh k7 (f_X12_findOdd_21 N sh k7 fu) (z + 242) (nI c) (nI (dgT R T c i)) (nI i) d) _
    have n1 := hN.2.1
    unfold g_X12_findOdd_21
    refine rdg hK hA 1 rfl (by decide) ?_
    rw [n1.1]
    refine rn_t ((nI_leI (by omega) (by omega)).mpr (by omega)) ?_
    have e : i = nn R 1 := by omega
    rw [e]
    exact hk
  | m + 1, i, fu, hi, hf => by
    obtain ⟨fu, rfl⟩ : ∃ q, fu = q + 1 := ⟨fu - 1, by omega⟩
    have ih := fo_in hK hN hW hA hT hc hk m (i + 1) fu (by omega) (by omega)
    show Rn (g_X12_findOdd_21 N sh k7 (f_X12_findOdd_21 N sh k7 fu) (z + 242) (nI c) (nI (dgT R T c i)) (nI i) d) _
    have n0 := hN.1.2
    have n1 := hN.2.1
    have his : i < nn R 1 := by omega
    obtain ⟨e7, a2, e8, b2, hne⟩ := ws_e hW hN his
    have e9 : dgT R T c (i + 1) = dgT R T c i + if eA R i = c ∨ eB R i = c then T i else 0 := rfl
    unfold g_X12_findOdd_21 f_X12_findOdd_67 f_X12_findOdd_77
    refine rdg hK hA 1 rfl (by decide) ?_
    rw [n1.1]
    refine rn_f (nI_ge his (by omega)) ?_
    refine rn_eq (m_st hK) ?_
    refine rdg hK hA (16 + 9 * i + 7) (ix_st i 7) (by omega) ?_
    rw [e7]
    have yes : eA R i = c ∨ eB R i = c → Rn ((gP sh (z + 242) 12 14).bind fun v17 => (aT 0 sh d v17 (nI i)).bind fun v18 => f_X12_findOdd_21 N sh k7 fu (z + 242) (nI c) (nI (dgT R T c i) + v18) (nI i + 1) d) Q := fun hy => by
      refine r_gP hK 242 12 14 251 rfl (by decide) ?_
      refine rn_eq (q_aT (ks_a hK 251 0 150 rfl) i rfl (by omega) (by decide)) ?_
      rw [hT i his, nI_add, nI_1]
      rw [e9, if_pos hy] at ih
      exact ih
    refine rn_ite (fun q => yes (Or.inl (nI_inj q (by omega) (by omega)))) (fun q => ?_)
    refine rdg hK hA (16 + 9 * i + 8) (ix_st i 8) (by omega) ?_
    rw [e8]
    refine rn_ite (fun q2 => ?_) (fun q2 => yes (Or.inr (nI_inj (Decidable.of_not_not q2) (by omega) (by omega))))
    rw [e9, if_neg (fun r => r.elim (fun r => q (by rw [r])) (fun r => q2 (by rw [r])))] at ih
    rw [show nI (dgT R T c i) + (0 : Int32) = nI (dgT R T c i + 0) from nI_add _ 0, nI_1]
    exact ih
theorem fo_out (hN1 : 200 ≤ N) (hK : KS sh z) (hN : WN R) (hW : WS R) (hA : AG (d0.1 (z + 243)) R) (hT : TV2 z R d0 T) (hTb : ∀ s, s < nn R 1 → T s ≤ 10000) : ∀ (m i fu : Nat) (d : Dt), i + m = nn R 0 → m < fu → OF z d0 d → d.1 (z + 242) 16 = nI (oddP R T i).length → OL d (z + 252) (oddP R T i) → Rn (f_X12_findOdd_7 N sh fu (z + 242) (nI i) d) (fun d' => OF z d0 d' ∧ d'.1 (z + 242) 16 = nI (oddP R T (nn R 0)).length ∧ OL d' (z + 252) (oddP R T (nn R 0)))
  | 0, i, fu, d, hi, hf, hM, h1, h2 => by
    obtain ⟨fu, rfl⟩ : ∃ q, fu = q + 1 := ⟨fu - 1, by omega⟩
    show Rn (g_X12_findOdd_7 N sh (f_X12_findOdd_7 N sh fu) (z + 242) (nI i) d) _
    have n0 := hN.1
    unfold g_X12_findOdd_7
    refine rdg hK (hM.ag hA) 0 rfl (by decide) ?_
    rw [n0.1]
    refine rn_t ((nI_leI (by omega) (by omega)).mpr (by omega)) ?_
    have e : i = nn R 0 := by omega
    subst e
    exact rn_some ⟨hM, h1, h2⟩
  | m + 1, i, fu, d, hi, hf, hM, h1, h2 => by
    obtain ⟨fu, rfl⟩ : ∃ q, fu = q + 1 := ⟨fu - 1, by omega⟩
    have ih := fo_out hN1 hK hN hW hA hT hTb m (i + 1) fu
    show Rn (g_X12_findOdd_7 N sh (f_X12_findOdd_7 N sh fu) (z + 242) (nI i) d) _
    have n0 := hN.1
    have n1 := hN.2.1.2
    have hlen := oddP_len (R := R) (T := T) i
    have hdg := dg_le (R := R) (T := T) (c := i) hTb (nn R 1) (Nat.le_refl _)
    unfold g_X12_findOdd_7
    refine rdg hK (hM.ag hA) 0 rfl (by decide) ?_
    rw [n0.1]
    refine rn_f (nI_ge (by omega) (by omega)) ?_
    refine fo_in (T := T) hK hN hW (hM.ag hA) (hM.tv hT) (by omega) ?_ (nn R 1) 0 N (by omega) (by omega)
    unfold f_X12_findOdd_85 f_X12_findOdd_112
    have hrem : o_irem (nI (dgT R T i (nn R 1))) 2 = some (nI (dgT R T i (nn R 1) % 2)) := by
      unfold o_irem
      rw [if_neg (by decide), show (2 : Int32) = nI 2 from rfl, pk_rem (by omega) (by decide) (by decide)]
    refine rn_eq hrem ?_
    rw [nI_1]
    refine rn_ite (fun q => ?_) (fun q => ?_)
    · have q : ¬ dgT R T i (nn R 1) % 2 = 1 := fun r => q (by rw [r]; rfl)
      refine ih d (by omega) (by omega) hM ?_ ?_
      · rw [oddP_s, if_neg q, List.append_nil]
        exact h1
      · rw [oddP_s, if_neg q, List.append_nil]
        exact h2
    · have q : dgT R T i (nn R 1) % 2 = 1 := nI_inj (b := 1) (Decidable.of_not_not q) (by omega) (by decide)
      refine r_gP hK 242 12 15 252 rfl (by decide) ?_
      refine r_gI hK (i := 242) (c := 12) rfl ?_
      rw [h1]
      refine rn_eq (q_sI (ks_a hK 252 0 60 rfl) (oddP R T i).length rfl (by omega) (by decide)) ?_
      refine r_gI hK (i := 242) (c := 12) rfl ?_
      refine r_pI hK (i := 242) (c := 12) rfl ?_
      have e16 : (wI d (z + 252) (oddP R T i).length (nI i)).1 (z + 242) 16 = nI (oddP R T i).length := by
        rw [wI_n (by omega)]
        exact h1
      rw [e16, nI_1]
      refine ih _ (by omega) (by omega) (hM.tr (OF.w2.tr OF.w)) ?_ ?_
      · rw [wI_s, va_up_s, oddP_s, if_pos q]
        simp
      · rw [oddP_s, if_pos q]
        intro k hk
        rw [wI_n (by omega)]
        exact ol_app h2 k hk
theorem m_findOdd (hN1 : 200 ≤ N) (hK : KS sh z) (hN : WN R) (hW : WS R) (hA : AG (d.1 (z + 243)) R) (hT : TV2 z R d T) (hTb : ∀ s, s < nn R 1 → T s ≤ 10000) : Rn (f_X12_findOdd N sh (z + 242) d) (fun d' => OF z d d' ∧ d'.1 (z + 242) 16 = nI (oddP R T (nn R 0)).length ∧ OL d' (z + 252) (oddP R T (nn R 0))) := by
  have n0 := hN.1.2
  unfold f_X12_findOdd
  refine rn_t (ks_o hK 242 12 rfl) ?_
  refine r_pI hK (i := 242) (c := 12) rfl ?_
  refine fo_out (d0 := d) hN1 hK hN hW hA hT hTb (nn R 0) 0 N _ (by omega) (by omega) OF.w ?_ (fun k hk => absurd hk (by simp [oddP]))
  rw [wI_s, va_up_s]
  rfl
/-! beginTimes() -/
theorem bt_loop9 (hK : KS sh z) (hN : WN R) (hW : WS R) (hA : AG (d0.1 (z + 243)) R) : ∀ (m i fu : Nat) (d : Dt), i + m = nn R 1 → m < fu → TF z d0 d → (∀ s, s < i → d.1 (z + 251) s = nI (T0 R s)) → Rn (f_X12_beginTimes_2 N sh fu (z + 242) (nI i) d) (fun d' => TF z d0 d' ∧ TV2 z R d' (T0 R))
  | 0, i, fu, d, hi, hf, hM, hv => by
    obtain ⟨fu, rfl⟩ : ∃ q, fu = q + 1 := ⟨fu - 1, by omega⟩
    show Rn (g_X12_beginTimes_2 N sh (f_X12_beginTimes_2 N sh fu) (z + 242) (nI i) d) _
    have n1 := hN.2.1
    have hA1 : AG (d.1 (z + 243)) R := by rw [hM.2 (z + 243) (by omega)]; exact hA
    unfold g_X12_beginTimes_2
    refine rdg hK hA1 1 rfl (by decide) ?_
    rw [n1.1]
    refine rn_t ((nI_leI (by omega) (by omega)).mpr (by omega)) ?_
    exact rn_some ⟨hM, fun s hs => hv s (by omega)⟩
  | m + 1, i, fu, d, hi, hf, hM, hv => by
    obtain ⟨fu, rfl⟩ : ∃ q, fu = q + 1 := ⟨fu - 1, by omega⟩
    have ih := bt_loop9 hK hN hW hA m (i + 1) fu
    show Rn (g_X12_beginTimes_2 N sh (f_X12_beginTimes_2 N sh fu) (z + 242) (nI i) d) _
    have n1 := hN.2.1
    have his : i < nn R 1 := by omega
    have hA1 : AG (d.1 (z + 243)) R := by rw [hM.2 (z + 243) (by omega)]; exact hA
    obtain ⟨-, -, -, e4, e3, e32⟩ := hW i his
    have fin : ∀ w : Nat, w = T0 R i → Rn (f_X12_beginTimes_41 N sh (f_X12_beginTimes_2 N sh fu) (z + 242) (nI i) (z + 251) (nI i) (nI w) d) (fun d' => TF z d0 d' ∧ TV2 z R d' (T0 R)) := fun w hw => by
      unfold f_X12_beginTimes_41
      refine rn_eq (q_sI (ks_a hK 251 0 150 rfl) i rfl (by omega) (by decide)) ?_
      rw [nI_1]
      refine ih _ (by omega) (by omega) hM.w (fun s hs => ?_)
      rw [wI_s]
      by_cases e : s = i
      · rw [e, va_up_s, hw]
      · rw [va_up_n e]
        exact hv s (by omega)
    have must : ∀ b : Int32, b = (if T0 R i = 0 then 0 else 1) → f_X12_must N sh (z + 242) (nI i) d = some b := fun b hb => by
      refine rn_val ?_
      unfold f_X12_must
      refine rn_t (ks_o hK 242 12 rfl) ?_
      refine rn_eq (m_isOpen hK hA1 (by omega)) ?_
      unfold T0 at hb
      by_cases h4 : R (16 + 9 * i + 4) = 0
      · rw [if_pos h4] at hb ⊢
        refine rn_f (by decide) ?_
        refine rds hK hA1 3 (by omega) (by decide) rfl ?_
        rw [e3]
        rcases Nat.eq_zero_or_pos (nn R (16 + 9 * i + 3)) with q | q
        · rw [if_pos q] at hb
          rw [q, hb]
          exact rn_t (by decide) ⟨0, rfl, rfl⟩
        · rw [if_neg (by omega)] at hb
          rw [hb]
          exact rn_f (nI_nle q (by omega)) ⟨1, rfl, rfl⟩
      · rw [if_neg h4] at hb ⊢
        rw [if_pos rfl] at hb
        rw [hb]
        exact rn_t rfl ⟨0, rfl, rfl⟩
    unfold g_X12_beginTimes_2
    refine rdg hK hA1 1 rfl (by decide) ?_
    rw [n1.1]
    refine rn_f (nI_ge his (by omega)) ?_
    refine r_gP hK 242 12 14 251 rfl (by decide) ?_
    refine rn_eq (must _ rfl) ?_
    by_cases h0 : T0 R i = 0
    · rw [if_pos h0]
      refine rn_t rfl ?_
      exact fin 0 h0.symm
    · rw [if_neg h0]
      refine rn_f (by decide) ?_
      refine rds hK hA1 3 (by omega) (by decide) rfl ?_
      rw [e3]
      refine fin _ ?_
      unfold T0 at h0 ⊢
      by_cases h4 : R (16 + 9 * i + 4) = 0
      · rw [if_pos h4]
      · rw [if_neg h4] at h0
        exact absurd rfl h0
theorem m_beginTimes (hN1 : 200 ≤ N) (hK : KS sh z) (hN : WN R) (hW : WS R) (hA : AG (d.1 (z + 243)) R) : Rn (f_X12_beginTimes N sh (z + 242) d) (fun d' => TF z d d' ∧ TV2 z R d' (T0 R)) := by
  have n1 := hN.2.1.2
  unfold f_X12_beginTimes
  refine rn_t (ks_o hK 242 12 rfl) ?_
  exact bt_loop9 (d0 := d) hK hN hW hA (nn R 1) 0 N d (by omega) (by omega) TF.rf (fun s hs => absurd hs (Nat.not_lt_zero s))
theorem T0_le (hW : WS R) {s : Nat} (hs : s < nn R 1) : T0 R s ≤ 2 := by
  obtain ⟨-, -, -, e4, e3, e32⟩ := hW s hs
  unfold T0
  split <;> omega
theorem T0_opt : OPT R (T0 R) := fun s hs hp => by
  unfold T0 at hp
  by_cases h : R (16 + 9 * s + 4) = 0
  · exact h
  · rw [if_neg h] at hp
    omega
end OD
