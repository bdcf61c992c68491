/-! the whole part of a melt: both sides' remainders are one float -/
theorem ff_lead {n : Nat} (h1 : 1 ≤ n) (h2 : n < 2 ^ 31) : 0 ≤ FP.Core.leading n 1 ∧ FP.Core.leading n 1 ≤ 30 ∧ (2 ^ 24 ≤ n → 24 ≤ FP.Core.leading n 1) := by
  obtain ⟨ha, hb⟩ := FP.Core.leading_spec (A := n) (B := 1) (by omega) (by decide)
  generalize FP.Core.leading n 1 = k at ha hb
  unfold FP.Core.Below at ha hb
  rw [Nat.one_mul] at ha hb
  have ha := Nat.not_lt.mp ha
  refine ⟨?_, ?_, ?_⟩
  · apply Int.not_lt.mp
    intro hk
    have e1 : (k + 1).toNat = 0 := by omega
    rw [e1, Nat.pow_zero] at hb
    have hp := Nat.two_pow_pos (-(k + 1)).toNat
    have := Nat.mul_pos (show 0 < n by omega) hp
    omega
  · apply Int.not_lt.mp
    intro hk
    have e1 : (-k).toNat = 0 := by omega
    rw [e1, Nat.pow_zero, Nat.mul_one] at ha
    have := Nat.pow_le_pow_right (show 0 < 2 by decide) (show 31 ≤ k.toNat by omega)
    omega
  · intro hn
    apply Int.not_lt.mp
    intro hk
    by_cases h0 : 0 ≤ k + 1
    · have e1 : (-(k + 1)).toNat = 0 := by omega
      rw [e1, Nat.pow_zero, Nat.mul_one] at hb
      have := Nat.pow_le_pow_right (show 0 < 2 by decide) (show (k + 1).toNat ≤ 24 by omega)
      omega
    · have e1 : (k + 1).toNat = 0 := by omega
      rw [e1, Nat.pow_zero] at hb
      have := Nat.mul_pos (show 0 < n by omega) (Nat.two_pow_pos (-(k + 1)).toNat)
      omega
theorem ff_norm {n : Nat} (h1 : 1 ≤ n) (h2 : n < 2 ^ 31) : ∃ (c : Nat) (q : Int), FP.Core.roundRatio FP.Core.b32 false n 1 0 = .fin false c q ∧ 2 ^ 23 ≤ c ∧ c < 2 ^ 24 ∧ -23 ≤ q ∧ q ≤ 8 ∧ (2 ^ 24 ≤ n → 0 ≤ q) := by
  obtain ⟨l0, l1, l2⟩ := ff_lead h1 h2
  have hfit := FP.Core.roundRatio_fits FP.Core.good_b32 false n (B := 1) (by decide) 0
  have hle := FP.Core.nearest_units_le (f := FP.Core.b32) (A := n) (B := 1) (by omega) (by decide) 0
  have hqm : FP.Core.b32.qmin = -149 := by decide
  have hqM : FP.Core.b32.qmax = 104 := by decide
  have hp : FP.Core.b32.p = 24 := rfl
  have htl : FP.Core.b32.tails = 2 ^ 23 := rfl
  have hQ : FP.Core.quantum FP.Core.b32 n 1 0 = FP.Core.leading n 1 - 23 := by
    unfold FP.Core.quantum
    rw [hqm, hp]
    omega
  have hr : FP.Core.roundRatio FP.Core.b32 false n 1 0 = FP.Core.settle FP.Core.b32 false (FP.Core.nearest (FP.Core.unitsNum n 0 (FP.Core.quantum FP.Core.b32 n 1 0)) (FP.Core.unitsDen 1 0 (FP.Core.quantum FP.Core.b32 n 1 0))) (FP.Core.quantum FP.Core.b32 n 1 0) := by
    unfold FP.Core.roundRatio
    rw [if_neg (by omega)]
    rfl
  rw [hQ] at hr hle
  generalize FP.Core.nearest (FP.Core.unitsNum n 0 (FP.Core.leading n 1 - 23)) (FP.Core.unitsDen 1 0 (FP.Core.leading n 1 - 23)) = c0 at hr hle
  generalize FP.Core.leading n 1 = k at *
  unfold FP.Core.settle FP.Core.bound at hr
  rw [hp] at hr hle
  by_cases hc : c0 < 2 ^ 24
  · rw [if_pos hc, if_pos (by omega)] at hr
    rw [hr] at hfit
    obtain ⟨f1, f2, f3, f4⟩ := hfit
    refine ⟨c0, k - 23, hr, ?_, hc, by omega, by omega, fun h => by have := l2 h; omega⟩
    rcases f4 with f4 | f4
    · omega
    · rw [htl] at f4; exact f4
  · rw [if_neg hc, if_pos (by omega)] at hr
    exact ⟨_, _, hr, by rw [htl]; exact Nat.le_refl _, by rw [htl]; decide, by omega, by omega, fun h => by have := l2 h; omega⟩
theorem ff_n32 {r : UInt32} (h : FP.Core.val32 r ≠ .nan) : vf_n32 r := by
  unfold vf_n32
  rw [UInt32.le_iff_toNat_le, FP.Core.mask_toNat32]
  exact (FP.Core.ne_nan32 r).mp h
theorem ff_pw (a b : Nat) : 2 ^ a * 2 ^ b = 2 ^ (a + b) := (Nat.pow_add 2 a b).symm
/-- u * 2^k, u of 24 digits, is held as it is -/
theorem ff_exact {u k : Nat} (hu0 : 1 ≤ u) (hu : u ≤ 2 ^ 24) (hk : k ≤ 8) : ∃ (c : Nat) (q : Int), FP.Core.roundRatio FP.Core.b32 false (u * 2 ^ k) 1 0 = .fin false c q ∧ c * 2 ^ (q + 149).toNat = u * 2 ^ k * 2 ^ 149 := by
  obtain ⟨c, q, hf, hv⟩ := FP.Core.natFit FP.Core.good_b32 FP.Core.wide_b32 false (n := u) hu
  have hqm : FP.Core.b32.qmin = -149 := by decide
  have hqM : FP.Core.b32.qmax = 104 := by decide
  have hp : FP.Core.b32.p = 24 := rfl
  have htl : FP.Core.b32.tails = 2 ^ 23 := rfl
  obtain ⟨f1, f2, f3, f4⟩ := hf
  rw [hp] at f1
  rw [hqm] at f2 f4
  rw [hqM] at f3
  rw [htl] at f4
  rw [Nat.mul_one] at hv
  have hq1 : q ≠ -149 := by
    intro e
    rw [e] at hv
    have e1 : (0 - (-149 : Int)).toNat = 149 := by decide
    have e2 : ((-149 : Int) - 0).toNat = 0 := by decide
    rw [e1, e2, Nat.pow_zero, Nat.mul_one] at hv
    have h9 : 1 * 2 ^ 149 ≤ u * 2 ^ 149 := Nat.mul_le_mul_right _ hu0
    have h8 : (2 : Nat) ^ 24 ≤ 1 * 2 ^ 149 := by decide
    omega
  have hct : 2 ^ 23 ≤ c := by rcases f4 with f4 | f4 <;> omega
  have hq2 : q ≤ 1 := by
    apply Int.not_lt.mp
    intro h
    have e1 : (0 - q).toNat = 0 := by omega
    rw [e1, Nat.pow_zero, Nat.mul_one] at hv
    have h9 := Nat.pow_le_pow_right (show 0 < 2 by decide) (show 2 ≤ (q - 0).toNat by omega)
    have h8 : 2 ^ 23 * 2 ^ 2 ≤ c * 2 ^ (q - 0).toNat := Nat.mul_le_mul hct h9
    omega
  have key : u * 2 ^ k * 2 ^ (0 - (q + k)).toNat = c * 1 * 2 ^ ((q + k) - 0).toNat ∧ c * 2 ^ (q + k + 149).toNat = u * 2 ^ k * 2 ^ 149 := by
    by_cases h0 : 0 ≤ q
    · have e1 : (0 - q).toNat = 0 := by omega
      have e3 : (0 - (q + k)).toNat = 0 := by omega
      have e4 : ((q + k) - 0).toNat = (q - 0).toNat + k := by omega
      have e5 : (q + k + 149).toNat = (q - 0).toNat + k + 149 := by omega
      rw [e1, Nat.pow_zero, Nat.mul_one] at hv
      rw [e3, e4, e5, hv, Nat.pow_zero, Nat.mul_one, Nat.mul_one, Nat.pow_add, Nat.pow_add, Nat.pow_add]
      refine ⟨by rw [Nat.mul_assoc], ?_⟩
      rw [Nat.mul_assoc, Nat.mul_assoc, Nat.mul_assoc]
    · have e2 : (q - 0).toNat = 0 := by omega
      rw [e2, Nat.pow_zero, Nat.mul_one] at hv
      obtain ⟨j, hj⟩ : ∃ j : Nat, (0 - q).toNat = j := ⟨_, rfl⟩
      rw [hj] at hv
      have hj0 : q = -(j : Int) := by omega
      have hj1 : j ≤ 148 := by omega
      subst hj0
      rw [← hv]
      have e5 : (-(j : Int) + k + 149).toNat = k + 149 - j := by omega
      rw [e5]
      refine ⟨?_, ?_⟩
      · by_cases hkj : j ≤ k
        · have e6 : (0 - (-(j : Int) + k)).toNat = 0 := by omega
          have e7 : ((-(j : Int) + k) - 0).toNat = k - j := by omega
          rw [e6, e7, Nat.pow_zero, Nat.mul_one, Nat.mul_one, Nat.mul_assoc, ff_pw]
          congr 2
          omega
        · have e6 : (0 - (-(j : Int) + k)).toNat = j - k := by omega
          have e7 : ((-(j : Int) + k) - 0).toNat = 0 := by omega
          rw [e6, e7, Nat.pow_zero, Nat.mul_one, Nat.mul_one, Nat.mul_assoc, ff_pw]
          congr 2
          omega
      · rw [Nat.mul_assoc, ff_pw, Nat.mul_assoc, ff_pw]
        congr 2
        omega
  refine ⟨c, q + k, FP.Core.roundRatio_exact FP.Core.good_b32 (by decide) ⟨by rw [hp]; exact f1, by rw [hqm]; omega, by rw [hqM]; omega, Or.inr (by rw [htl]; exact hct)⟩ key.1, key.2⟩
/-- the digits of a whole number that a float holds -/
def ff_U (T : Nat) : Prop := ∃ u k : Nat, T = u * 2 ^ k ∧ u ≤ 2 ^ 24 ∧ k ≤ 8 ∧ (0 < k → 2 ^ 23 ≤ u ∧ u < 2 ^ 24)
theorem ff_mod {T S : Nat} (hT : ff_U T) (hS : ff_U S) (hS0 : 1 ≤ S) : T % S = 0 ∨ ∃ u k : Nat, T % S = u * 2 ^ k ∧ 1 ≤ u ∧ u ≤ 2 ^ 24 ∧ k ≤ 8 := by
  obtain ⟨u1, k1, rfl, a1, a2, a3⟩ := hT
  obtain ⟨u2, k2, rfl, b1, b2, b3⟩ := hS
  by_cases hz : u1 * 2 ^ k1 % (u2 * 2 ^ k2) = 0
  · exact Or.inl hz
  right
  by_cases hlt : u1 * 2 ^ k1 < u2 * 2 ^ k2
  · rw [Nat.mod_eq_of_lt hlt] at hz ⊢
    have h0 : u1 ≠ 0 := fun e => hz (by rw [e, Nat.zero_mul])
    exact ⟨u1, k1, rfl, by omega, a1, a2⟩
  · have hlt := Nat.not_lt.mp hlt
    by_cases hk : k2 = 0
    · subst hk
      rw [Nat.pow_zero, Nat.mul_one] at *
      have := Nat.mod_lt (u1 * 2 ^ k1) (show 0 < u2 by omega)
      exact ⟨u1 * 2 ^ k1 % u2, 0, by rw [Nat.pow_zero, Nat.mul_one], by omega, by omega, by omega⟩
    · obtain ⟨c1, c2⟩ := b3 (by omega)
      have hk12 : k2 ≤ k1 := by
        apply Nat.not_lt.mp
        intro h
        have h1 : u1 * 2 ^ k1 ≤ 2 ^ 24 * 2 ^ k1 := Nat.mul_le_mul_right _ a1
        have h2 : 2 ^ 23 * 2 ^ k2 ≤ u2 * 2 ^ k2 := Nat.mul_le_mul_right _ c1
        have h3 : (2 : Nat) ^ 24 * 2 ^ k1 ≤ 2 ^ 23 * 2 ^ k2 := by
          rw [ff_pw, ff_pw]
          exact Nat.pow_le_pow_right (by decide) (by omega)
        by_cases h4 : 0 < k1
        · have h5 : u1 * 2 ^ k1 < 2 ^ 24 * 2 ^ k1 := Nat.mul_lt_mul_of_pos_right (a3 h4).2 (Nat.two_pow_pos _)
          omega
        · have h6 : k1 = 0 := by omega
          have h7 : k2 = 1 ∨ 2 ≤ k2 := by omega
          rcases h7 with h7 | h7
          · -- both sides are 2^24
            have h8 : u1 * 2 ^ k1 = u2 * 2 ^ k2 := Nat.le_antisymm (Nat.le_trans h1 (Nat.le_trans h3 h2)) hlt
            exact hz (by rw [h8]; exact Nat.mod_self _)
          · have h8 : (2 : Nat) ^ 24 * 2 ^ k1 < 2 ^ 23 * 2 ^ k2 := by
              rw [ff_pw, ff_pw]
              exact Nat.pow_lt_pow_right (by decide) (by omega)
            omega
      have e1 : u1 * 2 ^ k1 = (u1 * 2 ^ (k1 - k2)) * 2 ^ k2 := by
        rw [Nat.mul_assoc, ff_pw]
        congr 2
        omega
      have e2 : u1 * 2 ^ k1 % (u2 * 2 ^ k2) = (u1 * 2 ^ (k1 - k2)) % u2 * 2 ^ k2 := by
        rw [e1, Nat.mul_mod_mul_right]
      have := Nat.mod_lt (u1 * 2 ^ (k1 - k2)) (show 0 < u2 by omega)
      refine ⟨(u1 * 2 ^ (k1 - k2)) % u2, k2, e2, ?_, by omega, b2⟩
      apply Nat.not_lt.mp
      intro h
      have h0 : (u1 * 2 ^ (k1 - k2)) % u2 = 0 := by omega
      exact hz (by rw [e2, h0, Nat.zero_mul])
theorem ff_l2f {n : Int64} (h0 : 0 ≤ n.toInt) : FP.Core.val32 (FP.l2f n) = FP.Core.roundRatio FP.Core.b32 false n.toInt.toNat 1 0 := by
  show FP.Core.val32 (FP.Core.l2f n) = _
  rw [FP.Core.val32_l2f]
  show FP.Core.roundRatio FP.Core.b32 (decide (n.toInt < 0)) n.toInt.natAbs 1 0 = _
  rw [decide_eq_false (by omega), show n.toInt.natAbs = n.toInt.toNat by omega]
/-- a whole number as a float: its digits, and the whole number that it is then -/
theorem ff_int {n : Int64} (h0 : 1 ≤ n.toInt) (h1 : n.toInt < 2 ^ 31) : ∃ (c : Nat) (q : Int) (T : Nat), FP.Core.val32 (FP.l2f n) = .fin false c q ∧ 2 ^ 23 ≤ c ∧ c < 2 ^ 24 ∧ -23 ≤ q ∧ q ≤ 8 ∧ c * 2 ^ (q + 149).toNat = T * 2 ^ 149 ∧ 1 ≤ T ∧ T < 2 ^ 33 ∧ ff_U T := by
  have hv := ff_l2f (n := n) (by omega)
  obtain ⟨c, q, e, c1, c2, q1, q2, hbig⟩ := ff_norm (n := n.toInt.toNat) (by omega) (by omega)
  rw [e] at hv
  by_cases hs : n.toInt.toNat ≤ 2 ^ 24
  · obtain ⟨c', q', e', hz⟩ := ff_exact (u := n.toInt.toNat) (k := 0) (by omega) hs (by decide)
    rw [Nat.pow_zero, Nat.mul_one] at e' hz
    rw [e] at e'
    cases e'
    exact ⟨c, q, n.toInt.toNat, hv, c1, c2, q1, q2, hz, by omega, by omega, n.toInt.toNat, 0, by rw [Nat.pow_zero, Nat.mul_one], hs, by decide, fun h => absurd h (by decide)⟩
  · have hq := hbig (by omega)
    have e1 : (q + 149).toNat = q.toNat + 149 := by omega
    have hq8 : q.toNat ≤ 8 := by omega
    have hp := Nat.pow_le_pow_right (show 0 < 2 by decide) hq8
    have hp0 := Nat.two_pow_pos q.toNat
    have hc8 : c * 2 ^ q.toNat ≤ c * 2 ^ 8 := Nat.mul_le_mul_left _ hp
    have hc0 : 0 < c * 2 ^ q.toNat := Nat.mul_pos (by omega) hp0
    exact ⟨c, q, c * 2 ^ q.toNat, hv, c1, c2, q1, q2, by rw [e1, Nat.pow_add, Nat.mul_assoc], by omega, by omega, c, q.toNat, rfl, by omega, hq8, fun _ => ⟨c1, c2⟩⟩
theorem ff_8 : FP.Core.val32 1090519040 = .fin false (2 ^ 23) (-20) := by decide +kernel
/-- a float divided by 8 -/
theorem ff_div8 {x : UInt32} {c : Nat} {q : Int} (hx : FP.Core.val32 x = .fin false c q) (c1 : 2 ^ 23 ≤ c) (c2 : c < 2 ^ 24) (q1 : -23 ≤ q) (q2 : q ≤ 8) : FP.Core.val32 (FP.fdiv x 1090519040) = .fin false c (q - 3) := by
  show FP.Core.val32 (FP.Core.fdiv x 1090519040) = _
  rw [FP.Core.val32_fdiv, hx, ff_8]
  show FP.Core.roundRatio FP.Core.b32 (false != false) c (2 ^ 23) (q - (-20)) = _
  have hqm : FP.Core.b32.qmin = -149 := by decide
  have hqM : FP.Core.b32.qmax = 104 := by decide
  have hp : FP.Core.b32.p = 24 := rfl
  have htl : FP.Core.b32.tails = 2 ^ 23 := rfl
  refine FP.Core.roundRatio_exact FP.Core.good_b32 (by decide) ⟨by rw [hp]; exact c2, by rw [hqm]; omega, by rw [hqM]; omega, Or.inr (by rw [htl]; exact c1)⟩ ?_
  have e1 : (q - -20 - (q - 3)).toNat = 23 := by omega
  have e2 : (q - 3 - (q - -20)).toNat = 0 := by omega
  rw [e1, e2, Nat.pow_zero, Nat.mul_one]
