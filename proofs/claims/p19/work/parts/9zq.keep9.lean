/-! what is well made stays so: pair -/
section KEEP9
variable {R R' K : Nat → Int32} {p k i g x m hh : Nat} {v : Int32}
theorem lv_k0 (p' : Nat) : lvR R p (9426 + 13 * p') = R (9426 + 13 * p') := by
  by_cases e : p' = p
  · subst e
    unfold lvR
    rw [lpR_n (by omega), va_up_n (by omega)]
  · exact lvR_n (by omega)
theorem lv_3 : nn (lvR R p) 3 = nn R 3 := congrArg Int32.toNatClampNeg (lvR_n (by omega))
theorem unf_k3 (hR : WK R) (hp : p < nn R 3) (h : unf R p = 0) : nn R (9426 + 13 * p) ≤ 3 := by
  obtain ⟨⟨q1, q2⟩, -⟩ := hR.1.2.2.2.2.1 p hp
  unfold unf at h
  by_cases h2 : R (9426 + 13 * p + 2) = 1
  · rw [if_pos h2] at h
    exact absurd h (by decide)
  · rw [if_neg h2] at h
    by_cases h4 : R (9426 + 13 * p) = 4
    · rw [if_pos h4] at h
      exact absurd h (by decide)
    · have : nn R (9426 + 13 * p) ≠ 4 := fun e => h4 (by rw [q1, e]; rfl)
      omega
theorem wk_pair {a b c : Int32} (hR : WK R) : WKo (sp_pair R a b c) := by
  have n3 := hR.1.1.2.2.2.1.2
  unfold sp_pair
  by_cases h : ((a < 0 ∨ nI (nn R 3) ≤ a) ∨ (b < 0 ∨ nI (nn R 3) ≤ b)) ∨ a = b ∨ (c < 0 ∨ 10000 < c)
  · rw [if_pos h]
    exact wk_none
  · rw [if_neg h]
    obtain ⟨i, hi, ei, ai⟩ := st_of (x := a) (by omega) (fun q => h (Or.inl (Or.inl q)))
    obtain ⟨j, hj, ej, aj⟩ := st_of (x := b) (by omega) (fun q => h (Or.inl (Or.inr q)))
    obtain ⟨m, hm, em, -⟩ := st_of (x := c) (n := 10001) (by decide) (fun q => h (Or.inr (Or.inr (q.imp id (fun q => (lt_pred (n := 10001) (by decide)).mpr q)))))
    by_cases h3 : nn R 3 = 12
    · rw [if_pos h3]
      exact wk_none
    · rw [if_neg h3, ai, aj]
      by_cases u1 : unf R i = 0
      · rw [if_pos u1]
        by_cases u2 : unf R j = 0
        · rw [if_pos u2]
          intro R' hR'
          have hR' := Option.some.inj hR'
          rw [← hR', em, ei, ej]
          have k1 := wk_lvR hR hi
          have k2 := wk_lvR k1 (show j < nn (lvR R i) 3 by rw [lv_3]; exact hj)
          have e3 : nn (lvR (lvR R i) j) 3 = nn R 3 := by rw [lv_3, lv_3]
          have ek : ∀ p, nn (lvR (lvR R i) j) (9426 + 13 * p) = nn R (9426 + 13 * p) := fun p => congrArg Int32.toNatClampNeg ((lv_k0 p).trans (lv_k0 p))
          exact wk_comR (kk := 4) k2 (by rw [e3]; exact h3) (by omega) (by omega) (fun _ => ⟨i, j, by rw [e3]; exact hi, by rw [e3]; exact hj, rfl, rfl, by rw [ek]; exact unf_k3 hR hi u1, by rw [ek]; exact unf_k3 hR hj u2⟩)
        · rw [if_neg u2]
          exact wk_none
      · rw [if_neg u1]
        exact wk_none
end KEEP9
