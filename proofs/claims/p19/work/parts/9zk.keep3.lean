/-! what is well made stays so: none reading crossings street -/
section KEEP3
variable {R R' K : Nat → Int32} {p k i g x m b hh : Nat} {v w : Int32}
theorem wk_none2 {x h w : Int32} (hR : WK R) : WKo (sp_none R x h w) := by
  have n2 := hR.1.1.2.2.1.2
  unfold sp_none
  by_cases q : (x < 0 ∨ nI (nn R 2) ≤ x) ∨ (w < 0 ∨ 1 < w)
  · rw [if_pos q]
    exact wk_none
  · rw [if_neg q]
    obtain ⟨g, hg, -, e⟩ := st_of (by omega) (fun r => q (Or.inl r))
    rw [e]
    split
    · exact wk_write hR hg (Or.inr (Or.inl rfl))
    · exact wk_write hR hg (Or.inr (Or.inr rfl))
theorem wk_reading {x h v : Int32} (hR : WK R) : WKo (sp_reading R x h v) := by
  have n2 := hR.1.1.2.2.1.2
  unfold sp_reading
  by_cases q : x < 0 ∨ nI (nn R 2) ≤ x
  · rw [if_pos q]
    exact wk_none
  · rw [if_neg q]
    obtain ⟨g, hg, -, e⟩ := st_of (by omega) q
    rw [e]
    split
    · exact wk_write hR hg (Or.inl rfl)
    · refine wk_write hR hg ?_
      unfold lowm
      split
      · exact Or.inr (Or.inl rfl)
      · split
        · exact Or.inr (Or.inr rfl)
        · exact Or.inl rfl
theorem wk_crossings {n : Int32} (hR : WK R) : WKo (sp_crossings R n) := by
  obtain ⟨⟨⟨n0, n1, n2, n3, n4⟩, hG, hW, hC, hP, hD⟩, hO⟩ := hR
  unfold sp_crossings
  by_cases q : n < 1 ∨ 20 < n
  · rw [if_pos q]
    exact wk_none
  · rw [if_neg q]
    obtain ⟨m, hm, em, -⟩ := st_of (x := n) (n := 21) (by decide) (fun r => q (r.imp (fun r => Int32.lt_of_lt_of_le r (by decide)) (fun r => (lt_pred (n := 21) (by decide)).mpr r)))
    by_cases h6 : R 0 + n ≤ 60
    · rw [if_pos h6]
      intro R' hR'
      have hR' := Option.some.inj hR'
      rw [n0.1, em, nI_add] at h6 hR'
      have h6 := (nI_leI (b := 60) (by omega) (by decide)).mp h6
      have e : ∀ j, 1 ≤ j → R' j = R j := fun j hj => by rw [← hR', va_up_n (by omega)]
      have en : ∀ j, 1 ≤ j → nn R' j = nn R j := fun j hj => by unfold nn; rw [e j hj]
      have e0 : R' 0 = nI (nn R 0 + m) := by rw [← hR', va_up_s]
      have en0 : nn R' 0 = nn R 0 + m := by unfold nn; rw [e0, nI_clamp (by unfold nn at h6; omega)]; rfl
      refine ⟨⟨⟨by rw [e0, en0]; exact ⟨rfl, h6⟩, by rw [e 1 (by omega), en 1 (by omega)]; exact n1, by rw [e 2 (by omega), en 2 (by omega)]; exact n2, by rw [e 3 (by omega), en 3 (by omega)]; exact n3, by rw [e 4 (by omega), en 4 (by omega)]; exact n4⟩, fun g hg => ?_, fun t ht => ?_, ⟨fun g hg => ?_, fun k hk => ?_⟩, fun p hp => ?_, fun j hj => ?_⟩, wo_cg hO (en 3 (by omega)) (fun j hj => e j (by omega))⟩
      · rw [en 2 (by omega)] at hg
        rw [e _ (by omega), en _ (by omega)]
        exact hG g hg
      · rw [en 1 (by omega)] at ht
        obtain ⟨⟨a, b, q1, q2, q3⟩, q4⟩ := hW t ht
        have es : sln R' t = sln R t := en _ (by omega)
        rw [e _ (by omega), e _ (by omega), e (16 + 9 * t + 6) (by omega), e (16 + 9 * t + 5) (by omega), e (16 + 9 * t + 4) (by omega), e (16 + 9 * t + 3) (by omega), en (16 + 9 * t + 3) (by omega), es]
        exact ⟨⟨a, b, by omega, by omega, q3⟩, q4⟩
      · rw [en 2 (by omega)] at hg
        obtain ⟨⟨c, q1, q2⟩, q3⟩ := hC.1 g hg
        rw [e _ (by omega), e _ (by omega)]
        exact ⟨⟨c, by omega, q2⟩, q3⟩
      · obtain ⟨g, hh, q1, q2, q3⟩ := hk
        rw [en 2 (by omega)] at q1
        rw [en _ (by omega)] at q2
        rw [e _ (by omega)]
        exact hC.2 k ⟨g, hh, q1, q2, q3⟩
      · rw [en 3 (by omega)] at hp
        rw [en 3 (by omega), en 4 (by omega), e (9426 + 13 * p) (by omega), en (9426 + 13 * p) (by omega), e (9426 + 13 * p + 3) (by omega), e (9426 + 13 * p + 4) (by omega), e (9426 + 13 * p + 1) (by omega), en (9426 + 13 * p + 1) (by omega), e (9426 + 13 * p + 2) (by omega), e (9426 + 13 * p + 6) (by omega), e (9426 + 13 * p + 7) (by omega), e (9426 + 13 * p + 8) (by omega)]
        obtain ⟨q1, q2, q3⟩ := hP p hp
        refine ⟨q1, fun q => ?_, q3⟩
        obtain ⟨a, b, r1, r2, r3, r4, r5, r6⟩ := q2 q
        exact ⟨a, b, r1, r2, r3, r4, by rw [en _ (by omega)]; exact r5, by rw [en _ (by omega)]; exact r6⟩
      · rw [en 4 (by omega)] at hj
        obtain ⟨t, c, q1, q2, q3, q4, q5⟩ := hD j hj
        exact ⟨t, c, by rw [en 1 (by omega)]; exact q1, by rw [e _ (by omega)]; exact q2, by rw [e _ (by omega)]; exact q3, by rw [e (16 + 9 * t + 7) (by omega), e (16 + 9 * t + 8) (by omega)]; exact q4, by rw [e _ (by omega)]; exact q5⟩
    · rw [if_neg h6]
      exact wk_none
end KEEP3
