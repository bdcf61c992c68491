/-! what is well made stays so: a new STREET, a new GAUGE -/
section KEEP6
variable {R R' K : Nat → Int32} {p k i g x m hh : Nat} {v w : Int32}
theorem wk_stR {a b l : Nat} {o : Int32} (hR : WK R) (h1 : nn R 1 ≠ 150) (ha : a < nn R 0) (hb : b < nn R 0) (hab : a ≠ b) (hl : 1 ≤ l ∧ l ≤ 10000) (ho : o = 0 ∨ o = 1) : WK (stR R (nI a) (nI b) (nI l) o) := by
  obtain ⟨⟨hN, hG, hW, hC, hP, hD⟩, hO⟩ := hR
  have n0 := hN.1.2
  have n1 := hN.2.1.2
  have n2 := hN.2.2.1.2
  have e : ∀ j, j ≠ 1 → (j < 16 + 9 * nn R 1 ∨ 1366 ≤ j) → stR R (nI a) (nI b) (nI l) o j = R j := fun j q1 q2 => stR_n q1 (by omega)
  have en : ∀ j, j ≠ 1 → (j < 16 + 9 * nn R 1 ∨ 1366 ≤ j) → nn (stR R (nI a) (nI b) (nI l) o) j = nn R j := fun j q1 q2 => by unfold nn; rw [e j q1 q2]
  have e1 : nn (stR R (nI a) (nI b) (nI l) o) 1 = nn R 1 + 1 := stR_n1 hN
  refine ⟨⟨?_, fun g hg => ?_, fun t ht => ?_, ⟨fun g hg => ?_, fun k hk => ?_⟩, fun p hp => ?_, fun j hj => ?_⟩, wo_cg hO (en 3 (by omega) (by omega)) (fun j hj => e j (by omega) (by omega))⟩
  · unfold WN
    rw [en 0 (by omega) (by omega), e1, en 2 (by omega) (by omega), en 3 (by omega) (by omega), en 4 (by omega) (by omega), e 0 (by omega) (by omega), e 2 (by omega) (by omega), e 3 (by omega) (by omega), e 4 (by omega) (by omega), stR_1]
    exact ⟨hN.1, ⟨rfl, by omega⟩, hN.2.2⟩
  · rw [en 2 (by omega) (by omega)] at hg
    rw [e _ (by omega) (by omega), en _ (by omega) (by omega)]
    exact hG g hg
  · rw [e1] at ht
    rw [en 0 (by omega) (by omega)]
    by_cases et : t = nn R 1
    · have s6 : sln (stR R (nI a) (nI b) (nI l) o) t = l := by
        rw [et]
        unfold sln nn
        rw [show (R 1).toNatClampNeg = nn R 1 from rfl, stR_6, nI_clamp (by omega)]
      have s3 : nn (stR R (nI a) (nI b) (nI l) o) (16 + 9 * t + 3) = 1 := by
        rw [et]
        unfold nn
        rw [show (R 1).toNatClampNeg = nn R 1 from rfl, stR_3]
        rfl
      rw [s6, s3, et, stR_7, stR_8, stR_6, stR_5, stR_4, stR_3]
      exact ⟨⟨a, b, ha, hb, hab, rfl, rfl⟩, ⟨rfl, hl.1, hl.2⟩, ho, Or.inl rfl, rfl, by omega⟩
    · have es : sln (stR R (nI a) (nI b) (nI l) o) t = sln R t := en _ (by omega) (by omega)
      rw [e (16 + 9 * t + 7) (by omega) (by omega), e (16 + 9 * t + 8) (by omega) (by omega), e (16 + 9 * t + 6) (by omega) (by omega), e (16 + 9 * t + 5) (by omega) (by omega), e (16 + 9 * t + 4) (by omega) (by omega), e (16 + 9 * t + 3) (by omega) (by omega), en (16 + 9 * t + 3) (by omega) (by omega), es]
      exact hW t (by omega)
  · rw [en 2 (by omega) (by omega)] at hg
    rw [e _ (by omega) (by omega), e _ (by omega) (by omega), en 0 (by omega) (by omega)]
    exact hC.1 g hg
  · obtain ⟨g, hh, q1, q2, q3⟩ := hk
    rw [en 2 (by omega) (by omega)] at q1
    rw [en _ (by omega) (by omega)] at q2
    rw [e _ (by omega) (by omega)]
    exact hC.2 k ⟨g, hh, q1, q2, q3⟩
  · rw [en 3 (by omega) (by omega)] at hp
    have q : ∀ x, stR R (nI a) (nI b) (nI l) o (9426 + 13 * p + x) = R (9426 + 13 * p + x) := fun x => e _ (by omega) (by omega)
    have q0 : ∀ p, nn (stR R (nI a) (nI b) (nI l) o) (9426 + 13 * p) = nn R (9426 + 13 * p) := fun p => en _ (by omega) (by omega)
    rw [en 3 (by omega) (by omega), en 4 (by omega) (by omega), e (9426 + 13 * p) (by omega) (by omega), q0, q 3, q 4, q 1, en (9426 + 13 * p + 1) (by omega) (by omega), q 2, q 6, q 7, q 8]
    obtain ⟨q1, q2, q3⟩ := hP p hp
    refine ⟨q1, fun q => ?_, q3⟩
    obtain ⟨a, b, r1, r2, r3, r4, r5, r6⟩ := q2 q
    exact ⟨a, b, r1, r2, r3, r4, by rw [q0]; exact r5, by rw [q0]; exact r6⟩
  · rw [en 4 (by omega) (by omega)] at hj
    obtain ⟨t, c, q1, q2, q3, q4, q5⟩ := hD j hj
    exact ⟨t, c, by omega, by rw [e _ (by omega) (by omega)]; exact q2, by rw [e _ (by omega) (by omega)]; exact q3, by rw [e (16 + 9 * t + 7) (by omega) (by omega), e (16 + 9 * t + 8) (by omega) (by omega)]; exact q4, by rw [e _ (by omega) (by omega)]; exact q5⟩
theorem wk_street {a b l w : Int32} (hR : WK R) : WKo (sp_street R a b l w) := by
  have n0 := hR.1.1.1.2
  unfold sp_street
  by_cases h : ((a < 0 ∨ nI (nn R 0) ≤ a) ∨ (b < 0 ∨ nI (nn R 0) ≤ b)) ∨ a = b ∨ (l < 1 ∨ 10000 < l)
  · rw [if_pos h]
    exact wk_none
  · rw [if_neg h]
    split
    · exact wk_none
    · next h1 =>
      obtain ⟨i, hi, ei, -⟩ := st_of (x := a) (by omega) (fun q => h (Or.inl (Or.inl q)))
      obtain ⟨j, hj, ej, -⟩ := st_of (x := b) (by omega) (fun q => h (Or.inl (Or.inr q)))
      obtain ⟨m, hm, em, -⟩ := st_of (x := l) (n := 10001) (by decide) (fun q => h (Or.inr (Or.inr (q.imp (fun q => Int32.lt_of_lt_of_le q (by decide)) (fun q => (lt_pred (n := 10001) (by decide)).mpr q)))))
      have hm1 : 1 ≤ m := by
        rcases Nat.eq_zero_or_pos m with q | q
        · exact absurd (Or.inr (Or.inr (Or.inl (by rw [em, q]; decide)))) h
        · exact q
      have hij : i ≠ j := fun q => h (Or.inr (Or.inl (by rw [ei, ej, q])))
      intro R' hR'
      have hR' := Option.some.inj hR'
      rw [← hR', ei, ej, em]
      refine wk_stR hR h1 hi hj hij ⟨hm1, by omega⟩ ?_
      split
      · exact Or.inl rfl
      · exact Or.inr rfl
end KEEP6
