theorem fa_lt (a b : Int32) : a < b ↔ a.toInt < b.toInt := Int32.lt_iff_toInt_lt
theorem fa_le (a b : Int32) : a ≤ b ↔ a.toInt ≤ b.toInt := Int32.le_iff_toInt_le
theorem fa_eq (a b : Int32) : a = b ↔ a.toInt = b.toInt := Int32.toInt_inj.symm
/-! the whole part of a melt: both sides' remainders are one float -/
theorem ff_lead {n : Nat} (h1 : 1 ≤ n) (h2 : n < 2 ^ 33) : 0 ≤ FP.Core.leading n 1 ∧ FP.Core.leading n 1 ≤ 32 ∧ (2 ^ 24 ≤ n → 24 ≤ FP.Core.leading n 1) ∧ (n < 2 ^ 31 → FP.Core.leading n 1 ≤ 30) := by
  obtain ⟨ha, hb⟩ := FP.Core.leading_spec (A := n) (B := 1) (by omega) (by decide)
  generalize FP.Core.leading n 1 = k at ha hb
  unfold FP.Core.Below at ha hb
  rw [Nat.one_mul] at ha hb
  have ha := Nat.not_lt.mp ha
  refine ⟨?_, ?_, ?_, ?_⟩
  · apply Int.not_lt.mp
    intro hk
    have e1 : (k + 1).toNat = 0 := by omega
    rw [e1, Nat.pow_zero] at hb
    have hp := Nat.two_pow_pos (-(k + 1)).toNat
    have := Nat.mul_pos (show 0 < n by omega) hp
    omega
  · apply Int.not_lt.mp
    intro hk
    have e1 : (-k).toNat = 0 := by omega
    rw [e1, Nat.pow_zero, Nat.mul_one] at ha
    have := Nat.pow_le_pow_right (show 0 < 2 by decide) (show 33 ≤ k.toNat by omega)
    omega
  · intro hn
    apply Int.not_lt.mp
    intro hk
    by_cases h0 : 0 ≤ k + 1
    · have e1 : (-(k + 1)).toNat = 0 := by omega
      rw [e1, Nat.pow_zero, Nat.mul_one] at hb
      have := Nat.pow_le_pow_right (show 0 < 2 by decide) (show (k + 1).toNat ≤ 24 by omega)
      omega
    · have e1 : (k + 1).toNat = 0 := by omega
      rw [e1, Nat.pow_zero] at hb
      have := Nat.mul_pos (show 0 < n by omega) (Nat.two_pow_pos (-(k + 1)).toNat)
      omega
  · intro hn
    apply Int.not_lt.mp
    intro hk
    have e1 : (-k).toNat = 0 := by omega
    rw [e1, Nat.pow_zero, Nat.mul_one] at ha
    have := Nat.pow_le_pow_right (show 0 < 2 by decide) (show 31 ≤ k.toNat by omega)
    omega
theorem ff_norm {n : Nat} (h1 : 1 ≤ n) (h2 : n < 2 ^ 33) : ∃ (c : Nat) (q : Int), FP.Core.roundRatio FP.Core.b32 false n 1 0 = .fin false c q ∧ 2 ^ 23 ≤ c ∧ c < 2 ^ 24 ∧ -23 ≤ q ∧ q ≤ 10 ∧ (2 ^ 24 ≤ n → 0 ≤ q) ∧ (n < 2 ^ 31 → q ≤ 8) := by
  obtain ⟨l0, l1, l2, l3⟩ := ff_lead h1 h2
  have hfit := FP.Core.roundRatio_fits FP.Core.good_b32 false n (B := 1) (by decide) 0
  have hle := FP.Core.nearest_units_le (f := FP.Core.b32) (A := n) (B := 1) (by omega) (by decide) 0
  have hqm : FP.Core.b32.qmin = -149 := by decide
  have hqM : FP.Core.b32.qmax = 104 := by decide
  have hp : FP.Core.b32.p = 24 := rfl
  have htl : FP.Core.b32.tails = 2 ^ 23 := rfl
  have hQ : FP.Core.quantum FP.Core.b32 n 1 0 = FP.Core.leading n 1 - 23 := by
    unfold FP.Core.quantum
    rw [hqm, hp]
    omega
  have hr : FP.Core.roundRatio FP.Core.b32 false n 1 0 = FP.Core.settle FP.Core.b32 false (FP.Core.nearest (FP.Core.unitsNum n 0 (FP.Core.quantum FP.Core.b32 n 1 0)) (FP.Core.unitsDen 1 0 (FP.Core.quantum FP.Core.b32 n 1 0))) (FP.Core.quantum FP.Core.b32 n 1 0) := by
    unfold FP.Core.roundRatio
    rw [if_neg (by omega)]
    rfl
  rw [hQ] at hr hle
  generalize FP.Core.nearest (FP.Core.unitsNum n 0 (FP.Core.leading n 1 - 23)) (FP.Core.unitsDen 1 0 (FP.Core.leading n 1 - 23)) = c0 at hr hle
  generalize FP.Core.leading n 1 = k at *
  unfold FP.Core.settle FP.Core.bound at hr
  rw [hp] at hr hle
  by_cases hc : c0 < 2 ^ 24
  · rw [if_pos hc, if_pos (by omega)] at hr
    rw [hr] at hfit
    obtain ⟨f1, f2, f3, f4⟩ := hfit
    refine ⟨c0, k - 23, hr, ?_, hc, by omega, by omega, fun h => by have := l2 h; omega, fun h => by have := l3 h; omega⟩
    rcases f4 with f4 | f4
    · omega
    · rw [htl] at f4; exact f4
  · rw [if_neg hc, if_pos (by omega)] at hr
    exact ⟨_, _, hr, by rw [htl]; exact Nat.le_refl _, by rw [htl]; decide, by omega, by omega, fun h => by have := l2 h; omega, fun h => by have := l3 h; omega⟩
theorem ff_n32 {r : UInt32} (h : FP.Core.val32 r ≠ .nan) : vf_n32 r := by
  unfold vf_n32
  rw [UInt32.le_iff_toNat_le, FP.Core.mask_toNat32]
  exact (FP.Core.ne_nan32 r).mp h
theorem ff_pw (a b : Nat) : 2 ^ a * 2 ^ b = 2 ^ (a + b) := (Nat.pow_add 2 a b).symm
/-- u * 2^k, u of 24 digits, is held as it is -/
theorem ff_exact {u k : Nat} (hu0 : 1 ≤ u) (hu : u ≤ 2 ^ 24) (hk : k ≤ 8) : ∃ (c : Nat) (q : Int), FP.Core.roundRatio FP.Core.b32 false (u * 2 ^ k) 1 0 = .fin false c q ∧ c * 2 ^ (q + 149).toNat = u * 2 ^ k * 2 ^ 149 := by
  obtain ⟨c, q, hf, hv⟩ := FP.Core.natFit FP.Core.good_b32 FP.Core.wide_b32 false (n := u) hu
  have hqm : FP.Core.b32.qmin = -149 := by decide
  have hqM : FP.Core.b32.qmax = 104 := by decide
  have hp : FP.Core.b32.p = 24 := rfl
  have htl : FP.Core.b32.tails = 2 ^ 23 := rfl
  obtain ⟨f1, f2, f3, f4⟩ := hf
  rw [hp] at f1
  rw [hqm] at f2 f4
  rw [hqM] at f3
  rw [htl] at f4
  rw [Nat.mul_one] at hv
  have hq1 : q ≠ -149 := by
    intro e
    rw [e] at hv
    have e1 : (0 - (-149 : Int)).toNat = 149 := by decide
    have e2 : ((-149 : Int) - 0).toNat = 0 := by decide
    rw [e1, e2, Nat.pow_zero, Nat.mul_one] at hv
    have h9 : 1 * 2 ^ 149 ≤ u * 2 ^ 149 := Nat.mul_le_mul_right _ hu0
    have h8 : (2 : Nat) ^ 24 ≤ 1 * 2 ^ 149 := by decide
    omega
  have hct : 2 ^ 23 ≤ c := by rcases f4 with f4 | f4 <;> omega
  have hq2 : q ≤ 1 := by
    apply Int.not_lt.mp
    intro h
    have e1 : (0 - q).toNat = 0 := by omega
    rw [e1, Nat.pow_zero, Nat.mul_one] at hv
    have h9 := Nat.pow_le_pow_right (show 0 < 2 by decide) (show 2 ≤ (q - 0).toNat by omega)
    have h8 : 2 ^ 23 * 2 ^ 2 ≤ c * 2 ^ (q - 0).toNat := Nat.mul_le_mul hct h9
    omega
  have key : u * 2 ^ k * 2 ^ (0 - (q + k)).toNat = c * 1 * 2 ^ ((q + k) - 0).toNat ∧ c * 2 ^ (q + k + 149).toNat = u * 2 ^ k * 2 ^ 149 := by
    by_cases h0 : 0 ≤ q
    · have e1 : (0 - q).toNat = 0 := by omega
      have e3 : (0 - (q + k)).toNat = 0 := by omega
      have e4 : ((q + k) - 0).toNat = (q - 0).toNat + k := by omega
      have e5 : (q + k + 149).toNat = (q - 0).toNat + k + 149 := by omega
      rw [e1, Nat.pow_zero, Nat.mul_one] at hv
      rw [e3, e4, e5, hv, Nat.pow_zero, Nat.mul_one, Nat.mul_one, Nat.pow_add, Nat.pow_add, Nat.pow_add]
      refine ⟨by rw [Nat.mul_assoc], ?_⟩
      rw [Nat.mul_assoc, Nat.mul_assoc, Nat.mul_assoc]
    · have e2 : (q - 0).toNat = 0 := by omega
      rw [e2, Nat.pow_zero, Nat.mul_one] at hv
      obtain ⟨j, hj⟩ : ∃ j : Nat, (0 - q).toNat = j := ⟨_, rfl⟩
      rw [hj] at hv
      have hj0 : q = -(j : Int) := by omega
      have hj1 : j ≤ 148 := by omega
      subst hj0
      rw [← hv]
      have e5 : (-(j : Int) + k + 149).toNat = k + 149 - j := by omega
      rw [e5]
      refine ⟨?_, ?_⟩
      · by_cases hkj : j ≤ k
        · have e6 : (0 - (-(j : Int) + k)).toNat = 0 := by omega
          have e7 : ((-(j : Int) + k) - 0).toNat = k - j := by omega
          rw [e6, e7, Nat.pow_zero, Nat.mul_one, Nat.mul_one, Nat.mul_assoc, ff_pw]
          congr 2
          omega
        · have e6 : (0 - (-(j : Int) + k)).toNat = j - k := by omega
          have e7 : ((-(j : Int) + k) - 0).toNat = 0 := by omega
          rw [e6, e7, Nat.pow_zero, Nat.mul_one, Nat.mul_one, Nat.mul_assoc, ff_pw]
          congr 2
          omega
      · rw [Nat.mul_assoc, ff_pw, Nat.mul_assoc, ff_pw]
        congr 2
        omega
  refine ⟨c, q + k, FP.Core.roundRatio_exact FP.Core.good_b32 (by decide) ⟨by rw [hp]; exact f1, by rw [hqm]; omega, by rw [hqM]; omega, Or.inr (by rw [htl]; exact hct)⟩ key.1, key.2⟩
/-- the digits of a whole number that a float holds -/
def ff_U (T : Nat) : Prop := ∃ u k : Nat, T = u * 2 ^ k ∧ u ≤ 2 ^ 24 ∧ k ≤ 8 ∧ (0 < k → 2 ^ 23 ≤ u ∧ u < 2 ^ 24)
theorem ff_mod {T S : Nat} (hT : ff_U T) (hS : ff_U S) (hS0 : 1 ≤ S) : T % S = 0 ∨ ∃ u k : Nat, T % S = u * 2 ^ k ∧ 1 ≤ u ∧ u ≤ 2 ^ 24 ∧ k ≤ 8 := by
  obtain ⟨u1, k1, rfl, a1, a2, a3⟩ := hT
  obtain ⟨u2, k2, rfl, b1, b2, b3⟩ := hS
  by_cases hz : u1 * 2 ^ k1 % (u2 * 2 ^ k2) = 0
  · exact Or.inl hz
  right
  by_cases hlt : u1 * 2 ^ k1 < u2 * 2 ^ k2
  · rw [Nat.mod_eq_of_lt hlt] at hz ⊢
    have h0 : u1 ≠ 0 := fun e => hz (by rw [e, Nat.zero_mul])
    exact ⟨u1, k1, rfl, by omega, a1, a2⟩
  · have hlt := Nat.not_lt.mp hlt
    by_cases hk : k2 = 0
    · subst hk
      rw [Nat.pow_zero, Nat.mul_one] at *
      have := Nat.mod_lt (u1 * 2 ^ k1) (show 0 < u2 by omega)
      exact ⟨u1 * 2 ^ k1 % u2, 0, by rw [Nat.pow_zero, Nat.mul_one], by omega, by omega, by omega⟩
    · obtain ⟨c1, c2⟩ := b3 (by omega)
      have hk12 : k2 ≤ k1 := by
        apply Nat.not_lt.mp
        intro h
        have h1 : u1 * 2 ^ k1 ≤ 2 ^ 24 * 2 ^ k1 := Nat.mul_le_mul_right _ a1
        have h2 : 2 ^ 23 * 2 ^ k2 ≤ u2 * 2 ^ k2 := Nat.mul_le_mul_right _ c1
        have h3 : (2 : Nat) ^ 24 * 2 ^ k1 ≤ 2 ^ 23 * 2 ^ k2 := by
          rw [ff_pw, ff_pw]
          exact Nat.pow_le_pow_right (by decide) (by omega)
        by_cases h4 : 0 < k1
        · have h5 : u1 * 2 ^ k1 < 2 ^ 24 * 2 ^ k1 := Nat.mul_lt_mul_of_pos_right (a3 h4).2 (Nat.two_pow_pos _)
          omega
        · have h6 : k1 = 0 := by omega
          have h7 : k2 = 1 ∨ 2 ≤ k2 := by omega
          rcases h7 with h7 | h7
          · -- both sides are 2^24
            have h8 : u1 * 2 ^ k1 = u2 * 2 ^ k2 := Nat.le_antisymm (Nat.le_trans h1 (Nat.le_trans h3 h2)) hlt
            exact hz (by rw [h8]; exact Nat.mod_self _)
          · have h8 : (2 : Nat) ^ 24 * 2 ^ k1 < 2 ^ 23 * 2 ^ k2 := by
              rw [ff_pw, ff_pw]
              exact Nat.pow_lt_pow_right (by decide) (by omega)
            omega
      have e1 : u1 * 2 ^ k1 = (u1 * 2 ^ (k1 - k2)) * 2 ^ k2 := by
        rw [Nat.mul_assoc, ff_pw]
        congr 2
        omega
      have e2 : u1 * 2 ^ k1 % (u2 * 2 ^ k2) = (u1 * 2 ^ (k1 - k2)) % u2 * 2 ^ k2 := by
        rw [e1, Nat.mul_mod_mul_right]
      have := Nat.mod_lt (u1 * 2 ^ (k1 - k2)) (show 0 < u2 by omega)
      refine ⟨(u1 * 2 ^ (k1 - k2)) % u2, k2, e2, ?_, by omega, b2⟩
      apply Nat.not_lt.mp
      intro h
      have h0 : (u1 * 2 ^ (k1 - k2)) % u2 = 0 := by omega
      exact hz (by rw [e2, h0, Nat.zero_mul])
theorem ff_l2f {n : Int64} (h0 : 0 ≤ n.toInt) : FP.Core.val32 (FP.l2f n) = FP.Core.roundRatio FP.Core.b32 false n.toInt.toNat 1 0 := by
  show FP.Core.val32 (FP.Core.l2f n) = _
  rw [FP.Core.val32_l2f]
  show FP.Core.roundRatio FP.Core.b32 (decide (n.toInt < 0)) n.toInt.natAbs 1 0 = _
  rw [decide_eq_false (by omega), show n.toInt.natAbs = n.toInt.toNat by omega]
/-- a whole number as a float: its digits, and the whole number that it is then -/
theorem ff_int {n : Int64} (h0 : 1 ≤ n.toInt) (h1 : n.toInt < 2 ^ 31) : ∃ (c : Nat) (q : Int) (T : Nat), FP.Core.val32 (FP.l2f n) = .fin false c q ∧ 2 ^ 23 ≤ c ∧ c < 2 ^ 24 ∧ -23 ≤ q ∧ q ≤ 8 ∧ c * 2 ^ (q + 149).toNat = T * 2 ^ 149 ∧ 1 ≤ T ∧ T < 2 ^ 33 ∧ ff_U T := by
  have hv := ff_l2f (n := n) (by omega)
  obtain ⟨c, q, e, c1, c2, q1, -, hbig, q2⟩ := ff_norm (n := n.toInt.toNat) (by omega) (by omega)
  have q2 := q2 (by omega)
  rw [e] at hv
  by_cases hs : n.toInt.toNat ≤ 2 ^ 24
  · obtain ⟨c', q', e', hz⟩ := ff_exact (u := n.toInt.toNat) (k := 0) (by omega) hs (by decide)
    rw [Nat.pow_zero, Nat.mul_one] at e' hz
    rw [e] at e'
    cases e'
    exact ⟨c, q, n.toInt.toNat, hv, c1, c2, q1, q2, hz, by omega, by omega, n.toInt.toNat, 0, by rw [Nat.pow_zero, Nat.mul_one], hs, by decide, fun h => absurd h (by decide)⟩
  · have hq := hbig (by omega)
    have e1 : (q + 149).toNat = q.toNat + 149 := by omega
    have hq8 : q.toNat ≤ 8 := by omega
    have hp := Nat.pow_le_pow_right (show 0 < 2 by decide) hq8
    have hp0 := Nat.two_pow_pos q.toNat
    have hc8 : c * 2 ^ q.toNat ≤ c * 2 ^ 8 := Nat.mul_le_mul_left _ hp
    have hc0 : 0 < c * 2 ^ q.toNat := Nat.mul_pos (by omega) hp0
    exact ⟨c, q, c * 2 ^ q.toNat, hv, c1, c2, q1, q2, by rw [e1, Nat.pow_add, Nat.mul_assoc], by omega, by omega, c, q.toNat, rfl, by omega, hq8, fun _ => ⟨c1, c2⟩⟩
theorem ff_8 : FP.Core.val32 1090519040 = .fin false (2 ^ 23) (-20) := by decide +kernel
/-- a float divided by 8 -/
theorem ff_div8 {x : UInt32} {c : Nat} {q : Int} (hx : FP.Core.val32 x = .fin false c q) (c1 : 2 ^ 23 ≤ c) (c2 : c < 2 ^ 24) (q1 : -23 ≤ q) (q2 : q ≤ 10) : FP.Core.val32 (FP.fdiv x 1090519040) = .fin false c (q - 3) := by
  show FP.Core.val32 (FP.Core.fdiv x 1090519040) = _
  rw [FP.Core.val32_fdiv, hx, ff_8]
  show FP.Core.roundRatio FP.Core.b32 (false != false) c (2 ^ 23) (q - (-20)) = _
  have hqm : FP.Core.b32.qmin = -149 := by decide
  have hqM : FP.Core.b32.qmax = 104 := by decide
  have hp : FP.Core.b32.p = 24 := rfl
  have htl : FP.Core.b32.tails = 2 ^ 23 := rfl
  refine FP.Core.roundRatio_exact FP.Core.good_b32 (by decide) ⟨by rw [hp]; exact c2, by rw [hqm]; omega, by rw [hqM]; omega, Or.inr (by rw [htl]; exact c1)⟩ ?_
  have e1 : (q - -20 - (q - 3)).toNat = 23 := by omega
  have e2 : (q - 3 - (q - -20)).toNat = 0 := by omega
  rw [e1, e2, Nat.pow_zero, Nat.mul_one]
theorem ff_i2f (t : Int32) : FP.i2f t = FP.l2f t.toInt64 := FP.Core.i2f_l2f t
theorem ff_z {c : Nat} {q : Int} (q1 : -26 ≤ q) : FP.Core.zmag FP.Core.b32 (.fin false c q) = c * 2 ^ (q + 149).toNat := by
  show c * 2 ^ (q - FP.Core.b32.qmin).toNat = _
  rw [show FP.Core.b32.qmin = -149 by decide]
  congr 2
/-- t as a float, t divided by 8: its magnitude, and the whole number that t is as a float -/
theorem ff_t {t : Int32} (ht : ¬ t < 0) : ∃ T : Nat, T < 2 ^ 33 ∧ ff_U T ∧ (FP.f2l (FP.i2f t)).toInt = T ∧ (¬ t = 0 → 1 ≤ T) ∧ FP.Core.val32 (FP.fdiv (FP.i2f t) 1090519040) ≠ .nan ∧ FP.Core.FFin (FP.fdiv (FP.i2f t) 1090519040) ∧ FP.Core.sgn (FP.Core.val32 (FP.fdiv (FP.i2f t) 1090519040)) = false ∧ FP.Core.zmag FP.Core.b32 (FP.Core.val32 (FP.fdiv (FP.i2f t) 1090519040)) = T * 2 ^ 146 := by
  have h0 : 0 ≤ t.toInt := by
    rw [fa_lt] at ht
    have : (0 : Int32).toInt = 0 := by decide
    omega
  have h1 : t.toInt < 2 ^ 31 := t.toInt_lt
  by_cases hz : t = 0
  · subst hz
    have e1 : FP.fdiv (FP.i2f 0) 1090519040 = 0 := by decide +kernel
    have e2 : FP.Core.val32 0 = .fin false 0 (-149) := by decide +kernel
    refine ⟨0, by decide, ⟨0, 0, rfl, by decide, by decide, fun h => absurd h (by decide)⟩, by decide +kernel, fun h => absurd rfl h, ?_⟩
    rw [e1, e2]
    refine ⟨FP.Core.Datum.noConfusion, ?_, rfl, by decide +kernel⟩
    exact ⟨false, 0, -149, e2⟩
  · have hp : 1 ≤ t.toInt64.toInt := by
      rw [Int32.toInt_toInt64]
      have hne : t.toInt ≠ 0 := fun h => hz (by rw [fa_eq, h]; decide)
      omega
    obtain ⟨c, q, T, hv, c1, c2, q1, q2, hm, T1, T2, hU⟩ := ff_int (n := t.toInt64) hp (by rw [Int32.toInt_toInt64]; exact h1)
    rw [← ff_i2f] at hv
    have hd := ff_div8 hv c1 c2 q1 (by omega)
    have hz0 := ff_z (c := c) (q := q) (by omega)
    have hz3 := ff_z (c := c) (q := q - 3) (by omega)
    have hm3 : c * 2 ^ (q - 3 + 149).toNat = T * 2 ^ 146 := by
      have e1 : (q + 149).toNat = (q - 3 + 149).toNat + 3 := by omega
      rw [e1, Nat.pow_add, ← Nat.mul_assoc] at hm
      have e2 : T * 2 ^ 149 = T * 2 ^ 146 * 2 ^ 3 := by rw [Nat.mul_assoc, ff_pw]
      rw [e2] at hm
      exact Nat.eq_of_mul_eq_mul_right (by decide) hm
    refine ⟨T, T2, hU, ?_, fun _ => T1, ?_⟩
    · show (FP.Core.f2l (FP.i2f t)).toInt = _
      rw [FP.Core.f2l_val (by rw [hv]; exact FP.Core.Datum.noConfusion), hv, hz0, hm]
      show max _ (min _ ((T * 2 ^ 149 / FP.Core.one32 : Nat) : Int)) = _
      rw [show FP.Core.one32 = 2 ^ 149 from rfl, Nat.mul_div_cancel _ (Nat.two_pow_pos _)]
      omega
    · rw [hd, hz3, hm3]
      exact ⟨FP.Core.Datum.noConfusion, ⟨false, c, q - 3, hd⟩, rfl, rfl⟩
/-- the rest of a division by 8 -/
theorem ff_r {n : Int64} {R : Nat} (hn : n.toInt = R) (hR : R = 0 ∨ ∃ u k : Nat, R = u * 2 ^ k ∧ 1 ≤ u ∧ u ≤ 2 ^ 24 ∧ k ≤ 8) (hR2 : R < 2 ^ 33) : FP.Core.val32 (FP.fdiv (FP.l2f n) 1090519040) ≠ .nan ∧ FP.Core.sgn (FP.Core.val32 (FP.fdiv (FP.l2f n) 1090519040)) = false ∧ FP.Core.zmag FP.Core.b32 (FP.Core.val32 (FP.fdiv (FP.l2f n) 1090519040)) = R * 2 ^ 146 := by
  rcases hR with rfl | ⟨u, k, rfl, u1, u2, hk⟩
  · have e0 : n = 0 := Int64.toInt_inj.mp (by rw [hn]; decide)
    subst e0
    have e1 : FP.fdiv (FP.l2f 0) 1090519040 = 0 := by decide +kernel
    have e2 : FP.Core.val32 0 = .fin false 0 (-149) := by decide +kernel
    rw [e1, e2]
    exact ⟨FP.Core.Datum.noConfusion, rfl, by decide +kernel⟩
  · have hpos : 1 ≤ u * 2 ^ k := Nat.mul_pos u1 (Nat.two_pow_pos k)
    have hv := ff_l2f (n := n) (by omega)
    rw [hn, Int.toNat_natCast] at hv
    obtain ⟨c, q, e, c1, c2, q1, q2, -, -⟩ := ff_norm (n := u * 2 ^ k) hpos hR2
    obtain ⟨c', q', e', hm⟩ := ff_exact u1 u2 hk
    rw [e] at e'
    cases e'
    rw [e] at hv
    have hd := ff_div8 hv c1 c2 q1 q2
    have hz3 := ff_z (c := c) (q := q - 3) (by omega)
    have hm3 : c * 2 ^ (q - 3 + 149).toNat = u * 2 ^ k * 2 ^ 146 := by
      have e1 : (q + 149).toNat = (q - 3 + 149).toNat + 3 := by omega
      rw [e1, Nat.pow_add, ← Nat.mul_assoc] at hm
      have e2 : u * 2 ^ k * 2 ^ 149 = u * 2 ^ k * 2 ^ 146 * 2 ^ 3 := by rw [Nat.mul_assoc (u * 2 ^ k), ff_pw]
      rw [e2] at hm
      exact Nat.eq_of_mul_eq_mul_right (by decide) hm
    rw [hd, hz3, hm3]
    exact ⟨FP.Core.Datum.noConfusion, rfl, rfl⟩
/-- two floats of one sign and magnitude are one -/
theorem ff_one {x y : UInt32} (hx : FP.Core.val32 x ≠ .nan) (hy : FP.Core.val32 y ≠ .nan) (hs : FP.Core.sgn (FP.Core.val32 x) = FP.Core.sgn (FP.Core.val32 y)) (hz : FP.Core.zmag FP.Core.b32 (FP.Core.val32 x) = FP.Core.zmag FP.Core.b32 (FP.Core.val32 y)) : x = y := by
  have hv : FP.Core.zval FP.Core.b32 (FP.Core.val32 x) = FP.Core.zval FP.Core.b32 (FP.Core.val32 y) := by
    unfold FP.Core.zval
    rw [hs, hz]
  by_cases h0 : FP.Core.zval FP.Core.b32 (FP.Core.val32 y) = 0
  · have h1 := (FP.Core.zval_eq_zero32 hy).mp h0
    have h2 := (FP.Core.zval_eq_zero32 hx).mp (by rw [hv]; exact h0)
    have h3 := FP.Core.sgn_bits32 hx
    have h4 := FP.Core.sgn_bits32 hy
    rw [hs, h4] at h3
    have h5 : (2 ^ 31 ≤ y.toNat) ↔ (2 ^ 31 ≤ x.toNat) := decide_eq_decide.mp h3
    have l1 := x.toNat_lt
    have l2 := y.toNat_lt
    exact UInt32.toNat_inj.mp (by omega)
  · refine FP.Core.eq_bits32 (FP.Core.fnot_zero hy h0) ?_
    rw [FP.Core.fcmp_zval hx hy, hv]
    simp
theorem ff_sub {x y : UInt32} (hx : FP.Core.FFin x) (hy : FP.Core.FFin y) : FP.Core.val32 (FP.fsub x y) ≠ .nan := by
  obtain ⟨s, c, q, hx⟩ := hx
  obtain ⟨t, d, r, hy⟩ := hy
  show FP.Core.val32 (FP.Core.fsub x y) ≠ .nan
  rw [FP.Core.val32_fsub, hx, hy]
  show FP.Core.roundRatio _ _ _ _ _ ≠ _
  unfold FP.Core.roundRatio FP.Core.roundAt FP.Core.settle FP.Core.bound
  repeat' split
  all_goals exact FP.Core.Datum.noConfusion
theorem ff_div {x y : UInt32} (hx : FP.Core.val32 x ≠ .nan) {c : Nat} {q : Int} (hy : FP.Core.val32 y = .fin false c q) (hc : c ≠ 0) : FP.Core.val32 (FP.fdiv x y) ≠ .nan := by
  show FP.Core.val32 (FP.Core.fdiv x y) ≠ .nan
  rw [FP.Core.val32_fdiv, hy]
  cases hv : FP.Core.val32 x with
  | nan => exact absurd hv hx
  | inf s => exact FP.Core.Datum.noConfusion
  | fin s d r =>
    unfold FP.Core.quotient
    simp only
    rw [if_neg hc]
    unfold FP.Core.roundRatio FP.Core.roundAt FP.Core.settle FP.Core.bound
    repeat' split
    all_goals exact FP.Core.Datum.noConfusion
abbrev ml_a (t : Int32) : UInt32 := FP.fdiv (FP.i2f t) 1090519040
abbrev ml_q (t s : Int32) : Int32 := FP.f2i (FP.fdiv (FP.fsub (ml_a t) (FP.frem (ml_a t) (ml_a s))) (ml_a s))
def ml (t s : Int32) : Int32 := if ml_q t s < 100000 then ml_q t s else 100000
abbrev ml_R (t s : Int32) : Int64 := FP.f2l (FP.i2f t) - FP.f2l (FP.i2f t) / FP.f2l (FP.i2f s) * FP.f2l (FP.i2f s)
theorem ff_melt {t s : Int32} (ht : ¬ t < 0) (hs : ¬ s < 0) (hs0 : ¬ s = 0) : vf_n32 (ml_a t) ∧ vf_n32 (ml_a s) ∧ 1 ≤ FP.f2l (FP.i2f s) ∧ FP.fdiv (FP.l2f (ml_R t s)) 1090519040 = FP.frem (ml_a t) (ml_a s) ∧ vf_n32 (FP.frem (ml_a t) (ml_a s)) ∧ vf_n32 (FP.fsub (ml_a t) (FP.frem (ml_a t) (ml_a s))) ∧ vf_n32 (FP.fdiv (FP.fsub (ml_a t) (FP.frem (ml_a t) (ml_a s))) (ml_a s)) := by
  obtain ⟨T, T2, hTU, hTl, -, hTn, hTf, hTs, hTz⟩ := ff_t ht
  obtain ⟨S, S2, hSU, hSl, hS1, hSn, hSf, hSs, hSz⟩ := ff_t hs
  have hS1 := hS1 hs0
  have hbz : ¬ FP.Core.FZero (ml_a s) := FP.Core.fnot_zero hSn (by
    unfold FP.Core.zval
    rw [hSs, hSz]
    show ((S * 2 ^ 146 : Nat) : Int) ≠ 0
    have := Nat.mul_pos (show 0 < S by omega) (Nat.two_pow_pos 146)
    omega)
  obtain ⟨r1, r2, r3⟩ := FP.Core.frem_zval hTf hSn hbz
  have hm : T * 2 ^ 146 % (S * 2 ^ 146) = T % S * 2 ^ 146 := Nat.mul_mod_mul_right _ _ _
  rw [hTz, hSz, hm] at r3
  rw [hTs] at r2
  have eT : FP.f2l (FP.i2f t) = lN T := by
    apply Int64.toInt_inj.mp
    rw [hTl, pk_lT (by omega)]
  have eS : FP.f2l (FP.i2f s) = lN S := by
    apply Int64.toInt_inj.mp
    rw [hSl, pk_lT (by omega)]
  have eR : ml_R t s = lN (T % S) := by
    show FP.f2l (FP.i2f t) - FP.f2l (FP.i2f t) / FP.f2l (FP.i2f s) * FP.f2l (FP.i2f s) = _
    rw [eT, eS]
    exact pk_lRem (by omega) (by omega) (by omega)
  have hlt := Nat.mod_lt T (show 0 < S by omega)
  have hmod := ff_mod hTU hSU hS1
  obtain ⟨g1, g2, g3⟩ := ff_r (n := ml_R t s) (R := T % S) (by rw [eR, pk_lT (by omega)]) hmod (by omega)
  have hrest : FP.fdiv (FP.l2f (ml_R t s)) 1090519040 = FP.frem (ml_a t) (ml_a s) := ff_one g1 r1 (by rw [g2]; exact r2.symm) (by rw [g3]; exact r3.symm)
  have hrf : FP.Core.FFin (FP.frem (ml_a t) (ml_a s)) := by
    cases hv : FP.Core.val32 (FP.frem (ml_a t) (ml_a s)) with
    | nan => exact absurd hv r1
    | inf b =>
      have hv' : FP.Core.val32 (FP.Core.frem (ml_a t) (ml_a s)) = .inf b := hv
      rw [hv'] at r3
      have h8 : FP.Core.zmag FP.Core.b32 (.inf b) = 2 ^ 23 * 2 ^ 254 := rfl
      rw [h8] at r3
      have h9 : T % S * 2 ^ 146 < 2 ^ 33 * 2 ^ 146 := Nat.mul_lt_mul_of_pos_right (by omega) (Nat.two_pow_pos _)
      rw [ff_pw] at r3 h9
      have h7 : (2 : Nat) ^ (33 + 146) ≤ 2 ^ (23 + 254) := Nat.pow_le_pow_right (by decide) (by decide)
      omega
    | fin a b c => exact ⟨a, b, c, hv⟩
  have hsn := ff_sub hTf hrf
  obtain ⟨sb, cb, qb, hb⟩ := hSf
  have hsb : sb = false := by
    have := hSs
    rw [hb] at this
    exact this
  subst hsb
  have hcb : cb ≠ 0 := by
    intro h
    subst h
    exact hbz ⟨false, qb, hb⟩
  refine ⟨ff_n32 hTn, ff_n32 hSn, ?_, hrest, ff_n32 r1, ff_n32 hsn, ff_n32 (ff_div hsn hb hcb)⟩
  rw [eS, show (1 : Int64) = lN 1 from rfl]
  exact (pk_lLE (by decide) (by omega)).mpr hS1
