/-! what is well formed stays so -/
section WFS
variable {R : Nat → Int32}
theorem wf_upS {i k : Nat} {v : Int32} (hR : WF R) (hi : i < nn R 1) (hk : k < 6) (h45 : k = 4 ∨ k = 5 → v = 0 ∨ v = 1) (h3 : k = 3 → v = nI v.toNatClampNeg ∧ v.toNatClampNeg ≤ 2) : WF (va_up R (16 + 9 * i + k) v) := by
  have n1 := hR.1.2.1.2
  have n2 := hR.1.2.2.1.2
  have e : ∀ j, j ≠ 16 + 9 * i + k → va_up R (16 + 9 * i + k) v j = R j := fun j hj => va_up_n hj
  have en : ∀ j, j ≠ 16 + 9 * i + k → nn (va_up R (16 + 9 * i + k) v) j = nn R j := fun j hj => nn_up hj
  refine ⟨wn_up hR.1 (by omega), fun g hg => ?_, fun t ht => ?_, ⟨fun g hg => ?_, fun x hx => ?_⟩, fun p hp => ?_, fun j hj => ?_⟩
  · rw [en 2 (by omega)] at hg
    rw [e (1366 + 3 * g + 2) (by omega), en (1366 + 3 * g + 2) (by omega)]
    exact hR.2.1 g hg
  · rw [en 1 (by omega)] at ht
    obtain ⟨⟨a, b, q1, q2, q3, q4, q5⟩, q6, q7, q8, q9⟩ := hR.2.2.1 t ht
    refine ⟨⟨a, b, by rw [en 0 (by omega)]; exact q1, by rw [en 0 (by omega)]; exact q2, q3, by rw [e _ (by omega)]; exact q4, by rw [e _ (by omega)]; exact q5⟩, ?_, ?_, ?_, ?_⟩
    · unfold sln
      rw [e (16 + 9 * t + 6) (by omega), en (16 + 9 * t + 6) (by omega)]
      exact q6
    · by_cases q : t = i ∧ k = 5
      · obtain ⟨rfl, rfl⟩ := q
        rw [va_up_s]
        exact h45 (Or.inr rfl)
      · rw [e (16 + 9 * t + 5) (by omega)]
        exact q7
    · by_cases q : t = i ∧ k = 4
      · obtain ⟨rfl, rfl⟩ := q
        rw [va_up_s]
        exact h45 (Or.inl rfl)
      · rw [e (16 + 9 * t + 4) (by omega)]
        exact q8
    · by_cases q : t = i ∧ k = 3
      · obtain ⟨rfl, rfl⟩ := q
        unfold nn
        rw [va_up_s]
        exact h3 rfl
      · rw [e (16 + 9 * t + 3) (by omega), en (16 + 9 * t + 3) (by omega)]
        exact q9
  · rw [en 2 (by omega)] at hg
    rw [en 0 (by omega), e (1366 + 3 * g) (by omega), e (1366 + 3 * g + 1) (by omega)]
    exact hR.2.2.2.1.1 g hg
  · obtain ⟨g, h, q1, q2, q3⟩ := hx
    rw [en 2 (by omega)] at q1
    rw [en _ (by omega)] at q2
    rw [e (5426 + x) (by omega)]
    exact hR.2.2.2.1.2 x ⟨g, h, q1, q2, q3⟩
  · rw [en 3 (by omega)] at hp
    rw [en 3 (by omega), en 4 (by omega), e (9426 + 13 * p) (by omega), en (9426 + 13 * p) (by omega), e (9426 + 13 * p + 3) (by omega), e (9426 + 13 * p + 4) (by omega), e (9426 + 13 * p + 1) (by omega), en (9426 + 13 * p + 1) (by omega), e (9426 + 13 * p + 2) (by omega), e (9426 + 13 * p + 6) (by omega), e (9426 + 13 * p + 7) (by omega), e (9426 + 13 * p + 8) (by omega)]
    obtain ⟨q1, q2, q3⟩ := hR.2.2.2.2.1 p hp
    refine ⟨q1, fun q => ?_, q3⟩
    obtain ⟨a, b, r1, r2, r3, r4, r5, r6⟩ := q2 q
    exact ⟨a, b, r1, r2, r3, r4, by rw [en _ (by omega)]; exact r5, by rw [en _ (by omega)]; exact r6⟩
  · rw [en 4 (by omega)] at hj
    obtain ⟨t, c, q1, q2, q3, q4, q5⟩ := hR.2.2.2.2.2 j hj
    exact ⟨t, c, by rw [en 1 (by omega)]; exact q1, by rw [e _ (by omega)]; exact q2, by rw [e _ (by omega)]; exact q3, by rw [e (16 + 9 * t + 7) (by omega), e (16 + 9 * t + 8) (by omega)]; exact q4, by rw [e _ (by omega)]; exact q5⟩
/-- a CHANGE of gauges and readings alone -/
theorem wf_gau {R' : Nat → Int32} (hR : WF R) (e : ∀ j, j < 1366 ∨ 9426 ≤ j → R' j = R j) (hG : WG R') (hC : WC R') : WF R' := by
  have n1 := hR.1.2.1.2
  have en : ∀ j, j < 1366 ∨ 9426 ≤ j → nn R' j = nn R j := fun j hj => by unfold nn; rw [e j hj]
  refine ⟨?_, hG, fun t ht => ?_, hC, fun p hp => ?_, fun j hj => ?_⟩
  · unfold WN
    rw [e 0 (by omega), e 1 (by omega), e 2 (by omega), e 3 (by omega), e 4 (by omega), en 0 (by omega), en 1 (by omega), en 2 (by omega), en 3 (by omega), en 4 (by omega)]
    exact hR.1
  · rw [en 1 (by omega)] at ht
    unfold sln
    rw [en 0 (by omega), e (16 + 9 * t + 7) (by omega), e (16 + 9 * t + 8) (by omega), e (16 + 9 * t + 6) (by omega), en (16 + 9 * t + 6) (by omega), e (16 + 9 * t + 5) (by omega), e (16 + 9 * t + 4) (by omega), e (16 + 9 * t + 3) (by omega), en (16 + 9 * t + 3) (by omega)]
    exact hR.2.2.1 t ht
  · rw [en 3 (by omega)] at hp
    rw [en 3 (by omega), en 4 (by omega), e (9426 + 13 * p) (by omega), en (9426 + 13 * p) (by omega), e (9426 + 13 * p + 3) (by omega), e (9426 + 13 * p + 4) (by omega), e (9426 + 13 * p + 1) (by omega), en (9426 + 13 * p + 1) (by omega), e (9426 + 13 * p + 2) (by omega), e (9426 + 13 * p + 6) (by omega), e (9426 + 13 * p + 7) (by omega), e (9426 + 13 * p + 8) (by omega)]
    obtain ⟨q1, q2, q3⟩ := hR.2.2.2.2.1 p hp
    refine ⟨q1, fun q => ?_, q3⟩
    obtain ⟨a, b, r1, r2, r3, r4, r5, r6⟩ := q2 q
    exact ⟨a, b, r1, r2, r3, r4, by rw [en _ (by omega)]; exact r5, by rw [en _ (by omega)]; exact r6⟩
  · rw [en 4 (by omega)] at hj
    obtain ⟨t, c, q1, q2, q3, q4, q5⟩ := hR.2.2.2.2.2 j hj
    exact ⟨t, c, by rw [en 1 (by omega)]; exact q1, by rw [e _ (by omega)]; exact q2, by rw [e _ (by omega)]; exact q3, by rw [e (16 + 9 * t + 7) (by omega), e (16 + 9 * t + 8) (by omega)]; exact q4, by rw [e _ (by omega)]; exact q5⟩
end WFS
