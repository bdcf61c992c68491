/-! what is well made stays so: a new PLOUGH -/
section KEEP8
variable {R R' K : Nat → Int32} {p k i g x m hh : Nat} {v : Int32}
theorem wk_comR {kk mm : Nat} {ra rb : Int32} (hR : WK R) (h3 : nn R 3 ≠ 12) (hk : kk ≤ 4) (hm : mm ≤ 10000) (h4 : kk = 4 → ∃ a b, a < nn R 3 ∧ b < nn R 3 ∧ ra = nI a ∧ rb = nI b ∧ nn R (9426 + 13 * a) ≤ 3 ∧ nn R (9426 + 13 * b) ≤ 3) : WK (comR R (nI kk) (nI mm) ra rb) := by
  obtain ⟨⟨hN, hG, hW, hC, hP, hD⟩, hO⟩ := hR
  have n1 := hN.2.1.2
  have n2 := hN.2.2.1.2
  have n3 := hN.2.2.2.1.2
  have e : ∀ j, j ≠ 3 → (j < 9426 + 13 * nn R 3 ∨ 9426 + 13 * nn R 3 + 13 ≤ j) → comR R (nI kk) (nI mm) ra rb j = R j := fun j q1 q2 => by
    unfold comR
    rw [va_up_n (by omega), va_up_n (by omega), va_up_n (by omega), va_up_n (by omega), va_up_n (by omega)]
    exact zr_out (by omega)
  have en : ∀ j, j ≠ 3 → (j < 9426 + 13 * nn R 3 ∨ 9426 + 13 * nn R 3 + 13 ≤ j) → nn (comR R (nI kk) (nI mm) ra rb) j = nn R j := fun j q1 q2 => by unfold nn; rw [e j q1 q2]
  have c3 : comR R (nI kk) (nI mm) ra rb 3 = nI (nn R 3 + 1) := va_up_s
  have e3 : nn (comR R (nI kk) (nI mm) ra rb) 3 = nn R 3 + 1 := by
    unfold nn at c3 ⊢
    rw [c3, nI_clamp (by have := n3; unfold nn at this; omega)]
  have z : ∀ x, x < 13 → x ≠ 0 → x ≠ 1 → x ≠ 3 → x ≠ 4 → comR R (nI kk) (nI mm) ra rb (9426 + 13 * nn R 3 + x) = 0 := fun x hx a0 a1 a3 a4 => by
    unfold comR
    rw [va_up_n (by omega), va_up_n (by omega), va_up_n (by omega), va_up_n (by omega), va_up_n (by omega)]
    exact zr_in (by omega)
  have z0 : comR R (nI kk) (nI mm) ra rb (9426 + 13 * nn R 3) = nI kk := by
    unfold comR
    rw [va_up_n (by omega), va_up_n (by omega), va_up_n (by omega), va_up_n (by omega)]
    exact va_up_s
  have z1 : comR R (nI kk) (nI mm) ra rb (9426 + 13 * nn R 3 + 1) = nI mm := by
    unfold comR
    rw [va_up_n (by omega), va_up_n (by omega), va_up_n (by omega)]
    exact va_up_s
  have z3 : comR R (nI kk) (nI mm) ra rb (9426 + 13 * nn R 3 + 3) = ra := by
    unfold comR
    rw [va_up_n (by omega), va_up_n (by omega)]
    exact va_up_s
  have z4 : comR R (nI kk) (nI mm) ra rb (9426 + 13 * nn R 3 + 4) = rb := by
    unfold comR
    rw [va_up_n (by omega)]
    exact va_up_s
  have zn0 : nn (comR R (nI kk) (nI mm) ra rb) (9426 + 13 * nn R 3) = kk := (congrArg Int32.toNatClampNeg z0).trans (nI_clamp (by omega))
  have zn1 : nn (comR R (nI kk) (nI mm) ra rb) (9426 + 13 * nn R 3 + 1) = mm := (congrArg Int32.toNatClampNeg z1).trans (nI_clamp (by omega))
  refine ⟨⟨?_, fun g hg => ?_, fun t ht => ?_, ⟨fun g hg => ?_, fun k hk => ?_⟩, fun p hp => ?_, fun j hj => ?_⟩, fun p hp q x h5 hx => ?_⟩
  · unfold WN
    rw [en 0 (by omega) (by omega), en 1 (by omega) (by omega), en 2 (by omega) (by omega), e3, en 4 (by omega) (by omega), e 0 (by omega) (by omega), e 1 (by omega) (by omega), e 2 (by omega) (by omega), c3, e 4 (by omega) (by omega)]
    exact ⟨hN.1, hN.2.1, hN.2.2.1, ⟨rfl, by omega⟩, hN.2.2.2.2⟩
  · rw [en 2 (by omega) (by omega)] at hg
    rw [e _ (by omega) (by omega), en _ (by omega) (by omega)]
    exact hG g hg
  · rw [en 1 (by omega) (by omega)] at ht
    have es : sln (comR R (nI kk) (nI mm) ra rb) t = sln R t := en _ (by omega) (by omega)
    rw [e (16 + 9 * t + 7) (by omega) (by omega), e (16 + 9 * t + 8) (by omega) (by omega), e (16 + 9 * t + 6) (by omega) (by omega), e (16 + 9 * t + 5) (by omega) (by omega), e (16 + 9 * t + 4) (by omega) (by omega), e (16 + 9 * t + 3) (by omega) (by omega), en (16 + 9 * t + 3) (by omega) (by omega), es, en 0 (by omega) (by omega)]
    exact hW t ht
  · rw [en 2 (by omega) (by omega)] at hg
    rw [e _ (by omega) (by omega), e _ (by omega) (by omega), en 0 (by omega) (by omega)]
    exact hC.1 g hg
  · obtain ⟨g, hh, q1, q2, q3⟩ := hk
    rw [en 2 (by omega) (by omega)] at q1
    rw [en _ (by omega) (by omega)] at q2
    have := (hG g q1).2
    rw [e _ (by omega) (by omega)]
    exact hC.2 k ⟨g, hh, q1, q2, q3⟩
  · rw [e3] at hp
    by_cases ep : p = nn R 3
    · rw [ep, e3, en 4 (by omega) (by omega), z0, zn0, z1, zn1, z3, z4, z 2 (by omega) (by omega) (by omega) (by omega) (by omega), z 6 (by omega) (by omega) (by omega) (by omega) (by omega), z 7 (by omega) (by omega) (by omega) (by omega) (by omega), z 8 (by omega) (by omega) (by omega) (by omega) (by omega)]
      refine ⟨⟨rfl, hk⟩, fun q => ?_, ⟨rfl, hm⟩, Or.inl rfl, ⟨0, 0, 0, rfl, rfl, rfl, Nat.le_refl _, Nat.zero_le _⟩⟩
      obtain ⟨a, b, r1, r2, r3, r4, r5, r6⟩ := h4 q
      exact ⟨a, b, by omega, by omega, r3, r4, by rw [en _ (by omega) (by omega)]; exact r5, by rw [en _ (by omega) (by omega)]; exact r6⟩
    · have hp3 : p < nn R 3 := by omega
      rw [e3, en 4 (by omega) (by omega), e (9426 + 13 * p) (by omega) (by omega), en (9426 + 13 * p) (by omega) (by omega), e (9426 + 13 * p + 3) (by omega) (by omega), e (9426 + 13 * p + 4) (by omega) (by omega), e (9426 + 13 * p + 1) (by omega) (by omega), en (9426 + 13 * p + 1) (by omega) (by omega), e (9426 + 13 * p + 2) (by omega) (by omega), e (9426 + 13 * p + 6) (by omega) (by omega), e (9426 + 13 * p + 7) (by omega) (by omega), e (9426 + 13 * p + 8) (by omega) (by omega)]
      obtain ⟨q1, q2, q3⟩ := hP p hp3
      refine ⟨q1, fun q => ?_, q3⟩
      obtain ⟨a, b, r1, r2, r3, r4, r5, r6⟩ := q2 q
      exact ⟨a, b, by omega, by omega, r3, r4, by rw [en _ (by omega) (by omega)]; exact r5, by rw [en _ (by omega) (by omega)]; exact r6⟩
  · rw [en 4 (by omega) (by omega)] at hj
    obtain ⟨t, c, q1, q2, q3, q4, q5⟩ := hD j hj
    exact ⟨t, c, by rw [en 1 (by omega) (by omega)]; exact q1, by rw [e _ (by omega) (by omega)]; exact q2, by rw [e _ (by omega) (by omega)]; exact q3, by rw [e (16 + 9 * t + 7) (by omega) (by omega), e (16 + 9 * t + 8) (by omega) (by omega)]; exact q4, by rw [e _ (by omega) (by omega)]; exact q5⟩
  · rw [e3] at hp
    by_cases ep : p = nn R 3
    · rw [ep, z 2 (by omega) (by omega) (by omega) (by omega) (by omega)] at q
      exact absurd q (by decide)
    · rw [e _ (by omega) (by omega)] at q ⊢
      exact hO p (by omega) q x h5 hx
theorem wk_plough {a b : Int32} (hR : WK R) : WKo (sp_plough R a b) := by
  unfold sp_plough
  by_cases h : (a < 0 ∨ 3 < a) ∨ (b < 0 ∨ 10000 < b)
  · rw [if_pos h]
    exact wk_none
  · rw [if_neg h]
    split
    · exact wk_none
    · next h3 =>
      obtain ⟨i, hi, ei, -⟩ := st_of (x := a) (n := 4) (by decide) (fun q => h (Or.inl (q.imp id (fun q => (lt_pred (n := 4) (by decide)).mpr q))))
      obtain ⟨j, hj, ej, -⟩ := st_of (x := b) (n := 10001) (by decide) (fun q => h (Or.inr (q.imp id (fun q => (lt_pred (n := 10001) (by decide)).mpr q))))
      intro R' hR'
      have hR' := Option.some.inj hR'
      rw [← hR', ei, ej]
      exact wk_comR hR h3 (by omega) (by omega) (fun q => by omega)
end KEEP8
