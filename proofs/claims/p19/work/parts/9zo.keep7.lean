/-! what is well made stays so: a new GAUGE -/
section KEEP7
variable {R R' K : Nat → Int32} {p k i g x m hh : Nat} {v : Int32}
theorem wk_gaR {c : Nat} {w : Int32} (hR : WK R) (h2 : nn R 2 ≠ 20) (hc : c < nn R 0) (hw : w = 0 ∨ w = 1) : WK (gaR R (nI c) w) := by
  obtain ⟨⟨hN, hG, hW, hC, hP, hD⟩, hO⟩ := hR
  have n0 := hN.1.2
  have n1 := hN.2.1.2
  have n2 := hN.2.2.1.2
  have e : ∀ j, j ≠ 2 → (j < 1366 + 3 * nn R 2 ∨ 1426 ≤ j) → gaR R (nI c) w j = R j := fun j q1 q2 => gaR_n q1 (by omega)
  have en : ∀ j, j ≠ 2 → (j < 1366 + 3 * nn R 2 ∨ 1426 ≤ j) → nn (gaR R (nI c) w) j = nn R j := fun j q1 q2 => by unfold nn; rw [e j q1 q2]
  have e2 : nn (gaR R (nI c) w) 2 = nn R 2 + 1 := gaR_nn hN
  have c2 : gaR R (nI c) w 2 = nI (nn R 2 + 1) := va_up_s
  have c0 : gaR R (nI c) w (1366 + 3 * nn R 2) = nI c := by
    unfold gaR
    rw [va_up_n (by omega), va_up_n (by omega), va_up_n (by omega), va_up_s]
  have c1 : gaR R (nI c) w (1366 + 3 * nn R 2 + 1) = w := by
    unfold gaR
    rw [va_up_n (by omega), va_up_n (by omega), va_up_s]
  have c3 : gaR R (nI c) w (1366 + 3 * nn R 2 + 2) = -1 := by
    unfold gaR
    rw [va_up_n (by omega), va_up_s]
  have c3n : nn (gaR R (nI c) w) (1366 + 3 * nn R 2 + 2) = 0 := nn_m1 c3
  refine ⟨⟨?_, fun g hg => ?_, fun t ht => ?_, ⟨fun g hg => ?_, fun k hk => ?_⟩, fun p hp => ?_, fun j hj => ?_⟩, wo_cg hO (en 3 (by omega) (by omega)) (fun j hj => e j (by omega) (by omega))⟩
  · unfold WN
    rw [en 0 (by omega) (by omega), en 1 (by omega) (by omega), e2, en 3 (by omega) (by omega), en 4 (by omega) (by omega), e 0 (by omega) (by omega), e 1 (by omega) (by omega), c2, e 3 (by omega) (by omega), e 4 (by omega) (by omega)]
    exact ⟨hN.1, hN.2.1, ⟨rfl, by omega⟩, hN.2.2.2⟩
  · rw [e2] at hg
    by_cases eg : g = nn R 2
    · rw [eg, c3, c3n]
      exact ⟨Or.inl rfl, by omega⟩
    · rw [e _ (by omega) (by omega), en _ (by omega) (by omega)]
      exact hG g (by omega)
  · rw [en 1 (by omega) (by omega)] at ht
    have es : sln (gaR R (nI c) w) t = sln R t := en _ (by omega) (by omega)
    rw [e (16 + 9 * t + 7) (by omega) (by omega), e (16 + 9 * t + 8) (by omega) (by omega), e (16 + 9 * t + 6) (by omega) (by omega), e (16 + 9 * t + 5) (by omega) (by omega), e (16 + 9 * t + 4) (by omega) (by omega), e (16 + 9 * t + 3) (by omega) (by omega), en (16 + 9 * t + 3) (by omega) (by omega), es, en 0 (by omega) (by omega)]
    exact hW t ht
  · rw [e2] at hg
    rw [en 0 (by omega) (by omega)]
    by_cases eg : g = nn R 2
    · rw [eg, c0, c1]
      exact ⟨⟨c, hc, rfl⟩, hw⟩
    · rw [e _ (by omega) (by omega), e _ (by omega) (by omega)]
      exact hC.1 g (by omega)
  · obtain ⟨g, hh, q1, q2, q3⟩ := hk
    rw [e2] at q1
    by_cases eg : g = nn R 2
    · rw [eg, c3n] at q2
      omega
    · rw [en _ (by omega) (by omega)] at q2
      rw [e _ (by omega) (by omega)]
      exact hC.2 k ⟨g, hh, by omega, q2, q3⟩
  · rw [en 3 (by omega) (by omega)] at hp
    have q : ∀ x, gaR R (nI c) w (9426 + 13 * p + x) = R (9426 + 13 * p + x) := fun x => e _ (by omega) (by omega)
    have q0 : ∀ p, nn (gaR R (nI c) w) (9426 + 13 * p) = nn R (9426 + 13 * p) := fun p => en _ (by omega) (by omega)
    rw [en 3 (by omega) (by omega), en 4 (by omega) (by omega), e (9426 + 13 * p) (by omega) (by omega), q0, q 3, q 4, q 1, en (9426 + 13 * p + 1) (by omega) (by omega), q 2, q 6, q 7, q 8]
    obtain ⟨q1, q2, q3⟩ := hP p hp
    refine ⟨q1, fun q => ?_, q3⟩
    obtain ⟨a, b, r1, r2, r3, r4, r5, r6⟩ := q2 q
    exact ⟨a, b, r1, r2, r3, r4, by rw [q0]; exact r5, by rw [q0]; exact r6⟩
  · rw [en 4 (by omega) (by omega)] at hj
    obtain ⟨t, c, q1, q2, q3, q4, q5⟩ := hD j hj
    exact ⟨t, c, by rw [en 1 (by omega) (by omega)]; exact q1, by rw [e _ (by omega) (by omega)]; exact q2, by rw [e _ (by omega) (by omega)]; exact q3, by rw [e (16 + 9 * t + 7) (by omega) (by omega), e (16 + 9 * t + 8) (by omega) (by omega)]; exact q4, by rw [e _ (by omega) (by omega)]; exact q5⟩
theorem wk_gauge {x w : Int32} (hR : WK R) : WKo (sp_gauge R x w) := by
  have n0 := hR.1.1.1.2
  unfold sp_gauge
  by_cases h : x < 0 ∨ nI (nn R 0) ≤ x
  · rw [if_pos h]
    exact wk_none
  · rw [if_neg h]
    split
    · exact wk_none
    · next h2 =>
      obtain ⟨c, hc, ec, -⟩ := st_of (by omega) h
      intro R' hR'
      have hR' := Option.some.inj hR'
      rw [← hR', ec]
      refine wk_gaR hR h2 hc ?_
      split
      · exact Or.inl rfl
      · exact Or.inr rfl
end KEEP7
