/-! what is well made stays so: the cells of one PLOUGH -/
section KEEP4
variable {R R' K : Nat → Int32} {p k i g x m b hh : Nat} {v w : Int32}
theorem wk_pl (hR : WK R) (hp : p < nn R 3) (e : ∀ j, j < 9426 + 13 * p ∨ 9426 + 13 * p + 13 ≤ j → R' j = R j) (e0 : ∀ x, x < 5 → x ≠ 2 → R' (9426 + 13 * p + x) = R (9426 + 13 * p + x)) (h2 : R' (9426 + 13 * p + 2) = 0 ∨ R' (9426 + 13 * p + 2) = 1) (h3 : ∃ f m e, R' (9426 + 13 * p + 6) = nI f ∧ R' (9426 + 13 * p + 7) = nI m ∧ R' (9426 + 13 * p + 8) = nI e ∧ e ≤ m ∧ f + m ≤ nn R 4) (ho : R' (9426 + 13 * p + 2) = 1 → ∀ x, 5 ≤ x → x < 13 → R' (9426 + 13 * p + x) = 0) : WK R' := by
  obtain ⟨⟨hN, hG, hW, hC, hP, hD⟩, hO⟩ := hR
  have n1 := hN.2.1.2
  have n2 := hN.2.2.1.2
  have n3 := hN.2.2.2.1.2
  have en : ∀ j, j < 9426 + 13 * p ∨ 9426 + 13 * p + 13 ≤ j → nn R' j = nn R j := fun j hj => by unfold nn; rw [e j hj]
  have k0 : R' (9426 + 13 * p) = R (9426 + 13 * p) := e0 0 (by omega) (by omega)
  have kk : ∀ p', nn R' (9426 + 13 * p') = nn R (9426 + 13 * p') := fun p' => by
    by_cases q : p' = p
    · rw [q]
      unfold nn
      rw [k0]
    · exact en _ (by omega)
  refine ⟨⟨?_, fun g hg => ?_, fun t ht => ?_, ⟨fun g hg => ?_, fun k hk => ?_⟩, fun p' hp' => ?_, fun j hj => ?_⟩, fun p' hp' q x h5 hx => ?_⟩
  · unfold WN
    rw [en 0 (by omega), en 1 (by omega), en 2 (by omega), en 3 (by omega), en 4 (by omega), e 0 (by omega), e 1 (by omega), e 2 (by omega), e 3 (by omega), e 4 (by omega)]
    exact hN
  · rw [en 2 (by omega)] at hg
    rw [e _ (by omega), en _ (by omega)]
    exact hG g hg
  · rw [en 1 (by omega)] at ht
    have es : sln R' t = sln R t := en _ (by omega)
    rw [e (16 + 9 * t + 7) (by omega), e (16 + 9 * t + 8) (by omega), e (16 + 9 * t + 6) (by omega), e (16 + 9 * t + 5) (by omega), e (16 + 9 * t + 4) (by omega), e (16 + 9 * t + 3) (by omega), en (16 + 9 * t + 3) (by omega), es, en 0 (by omega)]
    exact hW t ht
  · rw [en 2 (by omega)] at hg
    rw [e _ (by omega), e _ (by omega), en 0 (by omega)]
    exact hC.1 g hg
  · obtain ⟨g, hh, q1, q2, q3⟩ := hk
    rw [en 2 (by omega)] at q1
    rw [en _ (by omega)] at q2
    have := (hG g q1).2
    rw [e _ (by omega)]
    exact hC.2 k ⟨g, hh, q1, q2, q3⟩
  · rw [en 3 (by omega)] at hp'
    obtain ⟨q1, q2, q3, q4, q5⟩ := hP p' hp'
    by_cases q : p' = p
    · subst q
      rw [en 3 (by omega), en 4 (by omega), kk p', k0, e0 3 (by omega) (by omega), e0 4 (by omega) (by omega), e0 1 (by omega) (by omega)]
      have k1 : nn R' (9426 + 13 * p' + 1) = nn R (9426 + 13 * p' + 1) := by unfold nn; rw [e0 1 (by omega) (by omega)]
      rw [k1]
      refine ⟨q1, fun h4 => ?_, q3, h2, h3⟩
      obtain ⟨a, b, r1, r2, r3, r4, r5, r6⟩ := q2 h4
      exact ⟨a, b, r1, r2, r3, r4, by rw [kk]; exact r5, by rw [kk]; exact r6⟩
    · rw [en 3 (by omega), en 4 (by omega), kk p', e (9426 + 13 * p') (by omega), e (9426 + 13 * p' + 3) (by omega), e (9426 + 13 * p' + 4) (by omega), e (9426 + 13 * p' + 1) (by omega), en (9426 + 13 * p' + 1) (by omega), e (9426 + 13 * p' + 2) (by omega), e (9426 + 13 * p' + 6) (by omega), e (9426 + 13 * p' + 7) (by omega), e (9426 + 13 * p' + 8) (by omega)]
      refine ⟨q1, fun h4 => ?_, q3, q4, q5⟩
      obtain ⟨a, b, r1, r2, r3, r4, r5, r6⟩ := q2 h4
      exact ⟨a, b, r1, r2, r3, r4, by rw [kk]; exact r5, by rw [kk]; exact r6⟩
  · rw [en 4 (by omega)] at hj
    obtain ⟨t, c, q1, q2, q3, q4, q5⟩ := hD j hj
    exact ⟨t, c, by rw [en 1 (by omega)]; exact q1, by rw [e _ (by omega)]; exact q2, by rw [e _ (by omega)]; exact q3, by rw [e (16 + 9 * t + 7) (by omega), e (16 + 9 * t + 8) (by omega)]; exact q4, by rw [e _ (by omega)]; exact q5⟩
  · rw [en 3 (by omega)] at hp'
    by_cases ep : p' = p
    · subst ep
      exact ho q x h5 hx
    · rw [e _ (by omega)] at q ⊢
      exact hO p' hp' q x h5 hx
theorem wk_lvR (hR : WK R) (hp : p < nn R 3) : WK (lvR R p) := by
  have z5 : ∀ x, 5 ≤ x → x < 13 → lvR R p (9426 + 13 * p + x) = 0 := fun x h1 h2 => zr_in (by omega)
  have l5 : ∀ x, x < 5 → lvR R p (9426 + 13 * p + x) = va_up R (9426 + 13 * p + 2) 1 (9426 + 13 * p + x) := fun x h => zr_out (by omega)
  refine wk_pl hR hp (fun j hj => lvR_n hj) (fun x h1 h2 => by rw [l5 x h1, va_up_n (by omega)]) (Or.inr (by rw [l5 2 (by omega), va_up_s])) ⟨0, 0, 0, ?_, ?_, ?_, Nat.le_refl _, Nat.zero_le _⟩ (fun _ => z5)
  · exact (z5 6 (by omega) (by omega)).trans rfl
  · exact (z5 7 (by omega) (by omega)).trans rfl
  · exact (z5 8 (by omega) (by omega)).trans rfl
theorem wk_lpR (hR : WK R) (hp : p < nn R 3) : WK (lpR R p) := by
  have z5 : ∀ x, 5 ≤ x → x < 13 → lpR R p (9426 + 13 * p + x) = 0 := fun x h1 h2 => zr_in (by omega)
  have l5 : ∀ x, x < 5 → lpR R p (9426 + 13 * p + x) = R (9426 + 13 * p + x) := fun x h => zr_out (by omega)
  refine wk_pl hR hp (fun j hj => lpR_n (by omega)) (fun x h1 _ => l5 x h1) (by rw [l5 2 (by omega)]; exact (hR.1.2.2.2.2.1 p hp).2.2.2.1) ⟨0, 0, 0, ?_, ?_, ?_, Nat.le_refl _, Nat.zero_le _⟩ (fun _ => z5)
  · exact (z5 6 (by omega) (by omega)).trans rfl
  · exact (z5 7 (by omega) (by omega)).trans rfl
  · exact (z5 8 (by omega) (by omega)).trans rfl
theorem wk_out {x : Int32} (hR : WK R) : WKo (sp_out R x) := by
  have n3 := hR.1.1.2.2.2.1.2
  unfold sp_out
  by_cases h : x < 0 ∨ nI (nn R 3) ≤ x
  · rw [if_pos h]
    exact wk_none
  · rw [if_neg h]
    obtain ⟨p, hp, -, e⟩ := st_of (by omega) h
    intro R' hR'
    have hR' := Option.some.inj hR'
    rw [← hR', e]
    exact wk_lvR hR hp
end KEEP4
