/-! LEAST, the class -/
section TK
variable {s s' : AS} {Q : AS → Prop} {sh : Sh} {d d0 d' : Dt} {z : Nat} {ow ow' : Nat → Nat} {R K : Nat → Int32} {u : Bool} {y : YL} {N S i j k m cc a b : Nat}
theorem lN_bit (hS : S < 2 ^ 31) : bit ((nI S).toInt64) j = (decide (j < 64) && S.testBit j) := by
  rw [nI_l hS]
  show (BitVec.ofNat 64 S).getLsbD j = _
  rw [BitVec.getLsbD_ofNat]
theorem k_low (hS : S < 2 ^ 14) (h0 : S ≠ 0) : f_X11_lowest N sh ((nI S).toInt64) d = some (nI (lowB S)) := by
  obtain ⟨a1, a2⟩ := lowB_ok h0
  have hl := (in_of_lt hS _ a1).2
  refine k_lowest ?_ (fun j hj => ?_)
  · rw [lN_bit (by omega), a1]
    simp
    omega
  · rw [lN_bit (by omega), a2 j hj]
    simp
theorem and_pred (hS : S < 2 ^ 14) (h0 : S ≠ 0) : S &&& (S - 1) = S ^^^ 2 ^ lowB S := by
  obtain ⟨a1, a2⟩ := lowB_ok h0
  have hl := (in_of_lt hS _ a1).2
  have b1 : bit ((nI S).toInt64) (lowB S) = true := by
    rw [lN_bit (by omega), a1]
    simp
    omega
  have b2 : ∀ j, j < lowB S → bit ((nI S).toInt64) j = false := fun j hj => by
    rw [lN_bit (by omega), a2 j hj]
    simp
  have hp := (bit_pred b1 b2).2
  have e1 : (nI S).toInt64 - 1 = (nI (S - 1)).toInt64 := by
    rw [nI_l (by omega), nI_l (by omega)]
    have : lN S = lN (S - 1) + 1 := by
      have : lN (S - 1 + 1) = lN (S - 1) + lN 1 := Int64.ofNat_add _ _
      rw [show S - 1 + 1 = S by omega] at this
      exact this
    rw [this]
    simp
  refine Nat.eq_of_testBit_eq (fun j => ?_)
  rw [Nat.testBit_and, Nat.testBit_xor, Nat.testBit_two_pow]
  by_cases hj : j < 64
  · have q := hp j
    rw [e1, lN_bit (by omega), lN_bit (by omega)] at q
    simp only [hj, decide_true, Bool.true_and] at q
    rw [q]
    by_cases c1 : j < lowB S
    · rw [if_pos c1, a2 j c1]
      have : ¬ lowB S = j := by omega
      simp [this]
    · rw [if_neg c1]
      by_cases c2 : j = lowB S
      · rw [if_pos c2, c2, a1]
        simp
      · rw [if_neg c2]
        have : ¬ lowB S = j := fun e => c2 e.symm
        simp [this]
  · have : S < 2 ^ j := Nat.lt_of_lt_of_le hS (Nat.pow_le_pow_right (by decide) (by omega))
    rw [Nat.testBit_lt_two_pow this]
    have : ¬ lowB S = j := by omega
    simp [this]
theorem sb_rest (hS : S < 2 ^ 14) (h0 : S ≠ 0) : nI S &&& (nI S - 1) = nI (S ^^^ 2 ^ lowB S) := by
  obtain ⟨w, rfl⟩ : ∃ w, S = w + 1 := ⟨S - 1, by omega⟩
  rw [nI_pred, sb_and, ← and_pred hS h0]
  rfl
theorem rest_lt (hS : S < 2 ^ 14) (h0 : S ≠ 0) : S ^^^ 2 ^ lowB S < 2 ^ 14 := by
  rw [← and_pred hS h0]
  exact Nat.lt_of_le_of_lt Nat.and_le_left hS
theorem rest_bit (h : lowB S < j) : (S ^^^ 2 ^ lowB S).testBit j = S.testBit j := by
  rw [Nat.testBit_xor, Nat.testBit_two_pow]
  have : ¬ lowB S = j := by omega
  simp [this]
/-- what the pairing holds: the list, gaps, a row of LEAST below n -/
def TBK (sh : Sh) (d : Dt) (z : Nat) (R : Nat → Int32) (a n : Nat) : Prop := d.1 (z + 201) 3 = nI (oddl R).length ∧ (∀ c, c < 14 → d.2.2.2 (z + 203) c = some (z + (204 + c))) ∧ (∀ i j, i < j → j < (oddl R).length → d.1 (z + (204 + i)) j = nI (min (gO R i j) 1000000000)) ∧ d.2.2.2 (z + 201) 6 = some a ∧ isA sh a 0 ∧ 2 ^ (oddl R).length ≤ sh.2.2.1 a ∧ sh.2.2.1 a ≤ 16384 ∧ ∀ S, S < n → d.1 a S = nI (min (LSx R S) 1000000000)
set_option maxRecDepth 20000 in
theorem ck_gps {v : Nat} (hv : v < 14) : (Nat.blt (204 + v) 264 && (Nat.beq (cTl.getD (204 + v) 99) 0 && Nat.beq (cLl.getD (204 + v) 0) 14)) = true := List.all_eq_true.mp (show (List.range 14).all (fun v => Nat.blt (204 + v) 264 && (Nat.beq (cTl.getD (204 + v) 99) 0 && Nat.beq (cLl.getD (204 + v) 0) 14)) = true by decide +kernel) v (List.mem_range.mpr hv)
theorem lbp_loop (hK : KS sh z) (hm : (oddl R).length ≤ 14) (hS : S < 2 ^ (oddl R).length) (h0 : S ≠ 0) (hT : TBK sh d z R a S) : ∀ (p j fu : Nat), j + p = (oddl R).length → p < fu → lowB S < j → f_X4_leastByPartner_21 N sh d fu (z + 201) (nI (lowB S)) (nI (S ^^^ 2 ^ lowB S)) (nI (min (mnJ (fun j => decide (lowB S < j) && S.testBit j) (fun j => gO R (lowB S) j + LSx R (rm2 S (lowB S) j)) j) 1000000000)) (nI j) = some (nI (min (LSx R S) 1000000000))
  | 0, j, fu, hj, hf, hlj => by
    obtain ⟨fu, rfl⟩ : ∃ q, fu = q + 1 := ⟨fu - 1, by omega⟩
    show g_X4_leastByPartner_21 N sh (f_X4_leastByPartner_21 N sh d fu) (z + 201) (nI (lowB S)) (nI (S ^^^ 2 ^ lowB S)) _ (nI j) d = _
    refine rn_val ?_
    unfold g_X4_leastByPartner_21
    refine r_gI hK (i := 201) (c := 4) rfl ?_
    rw [hT.1]
    refine rn_t ((nI_leI (by omega) (by omega)).mpr (by omega)) ?_
    have e : j = (oddl R).length := by omega
    rw [e]
    unfold LSx
    rw [lsF_eq (in_of_lt hS) h0]
    exact rn_some rfl
  | p + 1, j, fu, hj, hf, hlj => by
    obtain ⟨fu, rfl⟩ : ∃ q, fu = q + 1 := ⟨fu - 1, by omega⟩
    have ih := lbp_loop hK hm hS h0 hT p (j + 1) fu (by omega) (by omega) (by omega)
    show g_X4_leastByPartner_21 N sh (f_X4_leastByPartner_21 N sh d fu) (z + 201) (nI (lowB S)) (nI (S ^^^ 2 ^ lowB S)) _ (nI j) d = _
    have hS14 : S < 2 ^ 14 := Nat.lt_of_lt_of_le hS (Nat.pow_le_pow_right (by decide) hm)
    have hr14 := rest_lt hS14 h0
    have hbit := sb_bit (S := S ^^^ 2 ^ lowB S) (j := j) (by omega) (by omega)
    rw [rest_bit hlj] at hbit
    have hm9 : mnJ (fun j => decide (lowB S < j) && S.testBit j) (fun j => gO R (lowB S) j + LSx R (rm2 S (lowB S) j)) (j + 1) = if S.testBit j = true then min (mnJ (fun j => decide (lowB S < j) && S.testBit j) (fun j => gO R (lowB S) j + LSx R (rm2 S (lowB S) j)) j) (gO R (lowB S) j + LSx R (rm2 S (lowB S) j)) else mnJ (fun j => decide (lowB S < j) && S.testBit j) (fun j => gO R (lowB S) j + LSx R (rm2 S (lowB S) j)) j := by
      show (if (decide (lowB S < j) && S.testBit j) = true then _ else _) = _
      rw [decide_eq_true hlj]
      rfl
    obtain ⟨t1, t2, t3, t4, t5, t6, t7, t8⟩ := hT
    have hjm : j < (oddl R).length := by omega
    refine rn_val ?_
    unfold g_X4_leastByPartner_21 f_X4_leastByPartner_68
    rw [nI_1]
    refine r_gI hK (i := 201) (c := 4) rfl ?_
    rw [t1]
    refine rn_f (nI_ge hjm (by omega)) ?_
    refine rn_ite (fun q => ?_) (fun q => ?_)
    · have q : ¬ S.testBit j = true := fun r => q (hbit.1.mpr r)
      rw [hm9, if_neg q] at ih
      rw [ih]
      exact rn_some rfl
    · have q := hbit.1.mp (Decidable.of_not_not q)
      have hrl := rm2_lt q h0 hlj
      refine r_gP hK 201 4 5 203 rfl (by decide) ?_
      refine rn_eq (q_aQ (ks_a hK 203 5 14 rfl) (lowB S) (z + (204 + lowB S)) rfl (by omega) (by decide) (t2 _ (by omega))) ?_
      refine rn_eq (q_aT (ks_a hK (204 + lowB S) 0 14 (ck_gps (by omega))) j rfl (by omega) (by decide)) ?_
      refine r_gQ hK a t4 rfl ?_
      refine rn_eq (q_aT ⟨t5, rfl⟩ (rm2 S (lowB S) j) ?_ (by omega) (by omega)) ?_
      · rw [sb_pow (by omega), sb_xor]
        rfl
      · rw [t3 _ _ hlj hjm, t8 _ hrl, nI_add, o_min_nI (by omega) (by omega)]
        rw [hm9, if_pos q] at ih
        have e : min (min (mnJ (fun j => decide (lowB S < j) && S.testBit j) (fun j => gO R (lowB S) j + LSx R (rm2 S (lowB S) j)) j) 1000000000) (min (gO R (lowB S) j) 1000000000 + min (LSx R (rm2 S (lowB S) j)) 1000000000) = min (min (mnJ (fun j => decide (lowB S < j) && S.testBit j) (fun j => gO R (lowB S) j + LSx R (rm2 S (lowB S) j)) j) (gO R (lowB S) j + LSx R (rm2 S (lowB S) j))) 1000000000 := by omega
        rw [e, ih]
        exact rn_some rfl
theorem k_leastBy (hN1 : 100 ≤ N) (hK : KS sh z) (hm : (oddl R).length ≤ 14) (hS : S < 2 ^ (oddl R).length) (h0 : S ≠ 0) (hT : TBK sh d z R a S) : f_X4_leastByPartner N sh (z + 201) (nI S) d = some (nI (min (LSx R S) 1000000000)) := by
  have hS14 : S < 2 ^ 14 := Nat.lt_of_lt_of_le hS (Nat.pow_le_pow_right (by decide) hm)
  obtain ⟨a1, a2⟩ := lowB_ok h0
  have hl := (in_of_lt hS _ a1).2
  unfold f_X4_leastByPartner
  rw [if_pos (ks_o hK 201 4 rfl), k_low hS14 h0]
  show f_X4_leastByPartner_21 N sh d N (z + 201) (nI (lowB S)) (nI S &&& (nI S - 1)) 1000000000 (nI (lowB S) + 1) = _
  rw [sb_rest hS14 h0, nI_1]
  have := lbp_loop (N := N) hK hm hS h0 hT ((oddl R).length - (lowB S + 1)) (lowB S + 1) N (by omega) (by omega) (by omega)
  rw [mnJ_skip (lowB S + 1) (fun j hj => by
    by_cases q : lowB S < j
    · omega
    · simp [q])] at this
  exact this
/-- LEAST's row a alone is touched -/
def RWF (a : Nat) (d d' : Dt) : Prop := d'.2 = d.2 ∧ ∀ b, b ≠ a → d'.1 b = d.1 b
theorem tab_loop (hN1 : 20000 ≤ N) (hK : KS s.1 z) (hm : (oddl R).length ≤ 14) (hne : ∀ i, 201 ≤ i → i ≤ 217 → a ≠ z + i) : ∀ (p n fu : Nat) (d : Dt), n + p = 2 ^ (oddl R).length → p < fu → 1 ≤ n → RWF a d0 d → TBK s.1 d z R a n → Rn (f_X4_fillTable_110 N fu (z + 201) (nI (2 ^ (oddl R).length)) (nI n) (s.1, d)) (fun s' => ∃ d1, s' = (s.1, wI d1 (z + 201) 7 1) ∧ RWF a d0 d1 ∧ TBK s.1 d1 z R a (2 ^ (oddl R).length))
  | 0, n, fu, d, hn, hf, h1, hM, hT => by
    obtain ⟨fu, rfl⟩ : ∃ q, fu = q + 1 := ⟨fu - 1, by omega⟩
    have hp14 : 2 ^ (oddl R).length ≤ 2 ^ 14 := Nat.pow_le_pow_right (by decide) hm
    show Rn (g_X4_fillTable_110 N (f_X4_fillTable_110 N fu) (z + 201) (nI (2 ^ (oddl R).length)) (nI n) (s.1, d)) _
    unfold g_X4_fillTable_110
    refine rn_t ((nI_leI (by omega) (by omega)).mpr (by omega)) ?_
    unfold f_X4_fillTable_146
    refine r_pI hK (i := 201) (c := 4) rfl ?_
    have e : n = 2 ^ (oddl R).length := by omega
    rw [e] at hT
    exact rn_some ⟨d, rfl, hM, hT⟩
  | p + 1, n, fu, d, hn, hf, h1, hM, hT => by
    obtain ⟨fu, rfl⟩ : ∃ q, fu = q + 1 := ⟨fu - 1, by omega⟩
    have ih := tab_loop hN1 hK hm hne p (n + 1) fu
    have hp14 : 2 ^ (oddl R).length ≤ 2 ^ 14 := Nat.pow_le_pow_right (by decide) hm
    show Rn (g_X4_fillTable_110 N (f_X4_fillTable_110 N fu) (z + 201) (nI (2 ^ (oddl R).length)) (nI n) (s.1, d)) _
    have hn14 : n < 2 ^ 14 := by omega
    obtain ⟨t1, t2, t3, t4, t5, t6, t7, t8⟩ := id hT
    unfold g_X4_fillTable_110
    refine rn_f (nI_ge (by omega) (by omega)) ?_
    refine r_gQ hK a t4 rfl ?_
    refine rn_eq (k_bcN hn14).1 ?_
    have hb24 := (k_bcN (N := N) (sh := s.1) (d := d) hn14).2
    have hrem : o_irem (nI (bcN n)) 2 = some (nI (bcN n % 2)) := by
      unfold o_irem
      rw [if_neg (by decide), show (2 : Int32) = nI 2 from rfl, pk_rem (by omega) (by decide) (by decide)]
    refine rn_eq hrem ?_
    have fin : Rn (f_X4_fillTable_139 N (f_X4_fillTable_110 N fu) (z + 201) (nI (2 ^ (oddl R).length)) (nI n) a (nI n) (nI (min (LSx R n) 1000000000)) (s.1, d)) (fun s' => ∃ d1, s' = (s.1, wI d1 (z + 201) 7 1) ∧ RWF a d0 d1 ∧ TBK s.1 d1 z R a (2 ^ (oddl R).length)) := by
      unfold f_X4_fillTable_139
      refine rn_eq (q_sI ⟨t5, rfl⟩ n rfl (by omega) (by omega)) ?_
      rw [nI_1]
      refine ih _ (by omega) (by omega) (by omega) ⟨hM.1, fun b hb => by rw [wI_n hb]; exact hM.2 b hb⟩ ⟨?_, t2, fun i j hij hj => ?_, t4, t5, t6, t7, fun S hS => ?_⟩
      · rw [wI_n (fun e => hne 201 (by omega) (by omega) e.symm)]
        exact t1
      · rw [wI_n (fun e => hne (204 + i) (by omega) (by omega) e.symm)]
        exact t3 i j hij hj
      · rw [wI_s]
        by_cases e : S = n
        · rw [e, va_up_s]
        · rw [va_up_n e]
          exact t8 S (by omega)
    rcases Nat.mod_two_eq_zero_or_one (bcN n) with r | r
    · rw [r]
      refine rn_f (fun q => q rfl) ?_
      refine rn_eq (k_leastBy (by omega) hK hm (by omega) (by omega) hT) ?_
      exact fin
    · rw [r]
      refine rn_t (by decide) ?_
      have ho : pcN n (oddl R).length % 2 = 1 := by
        have h9 := bc_mod hn14
        have h8 := pc_ext (S := n) (m := (oddl R).length) (in_of_lt (by omega)) (14 - (oddl R).length)
        rw [show (oddl R).length + (14 - (oddl R).length) = 14 by omega] at h8
        omega
      have hinf := lsF_odd (g := gO R) (m := (oddl R).length) (oddl R).length n 0 (in_of_lt (by omega)) (by omega) ho
      have e9 : min (LSx R n) 1000000000 = 1000000000 := by
        unfold LSx
        omega
      rw [e9] at fin
      exact fin
end TK
