/-! what is well made stays so: split -/
section KEEP5
variable {R R' K : Nat → Int32} {p k i g x m b hh : Nat} {v w : Int32}
theorem wk_slF (hR : WK R) : ∀ p, p ≤ nn R 3 → WK (slF R p)
  | 0, _ => hR
  | p + 1, hp => by
    have ih := wk_slF hR p (by omega)
    have n3 := hR.1.1.2.2.2.1.2
    have e3 : nn (slF R p) 3 = nn R 3 := by unfold nn; rw [slF_n (by omega)]
    have e4 : nn (slF R p) 4 = nn R 4 := by unfold nn; rw [slF_n (by omega)]
    have hp3 : p < nn (slF R p) 3 := by omega
    show WK (if R (9426 + 13 * p + 2) = 1 then lpR (slF R p) p else slP (lpR (slF R p) p) p (spF R p) (spF R (p + 1) - spF R p) (spM R p))
    by_cases h2 : R (9426 + 13 * p + 2) = 1
    · rw [if_pos h2]
      exact wk_lpR ih hp3
    · rw [if_neg h2]
      have b1 := (spF_b (R := R) (p + 1)).1
      have b2 := (spF_b (R := R) p).2
      have l5 : ∀ x, x < 5 → slP (lpR (slF R p) p) p (spF R p) (spF R (p + 1) - spF R p) (spM R p) (9426 + 13 * p + x) = slF R p (9426 + 13 * p + x) := fun x h => by
        unfold slP
        rw [va_up_n (by omega), va_up_n (by omega), va_up_n (by omega), va_up_n (by omega), lpR_n (by omega)]
      have k2 : slF R p (9426 + 13 * p + 2) = R (9426 + 13 * p + 2) := slF_k (by omega) p
      refine wk_pl ih hp3 (fun j hj => ?_) (fun x h1 _ => l5 x h1) ?_ ⟨spF R p, spF R (p + 1) - spF R p, 0, ?_, ?_, ?_, Nat.zero_le _, by rw [e4]; omega⟩ (fun q => ?_)
      · unfold slP
        rw [va_up_n (by omega), va_up_n (by omega), va_up_n (by omega), va_up_n (by omega), lpR_n (by omega)]
      · rw [l5 2 (by omega)]
        exact (ih.1.2.2.2.2.1 p hp3).2.2.2.1
      · unfold slP
        rw [va_up_n (by omega), va_up_n (by omega), va_up_s]
      · unfold slP
        rw [va_up_n (by omega), va_up_s]
      · unfold slP
        rw [va_up_n (by omega), va_up_n (by omega), va_up_n (by omega), va_up_n (by omega)]
        exact (zr_in (by omega)).trans rfl
      · rw [l5 2 (by omega), k2] at q
        exact absurd q h2
theorem wk_split (hR : WK R) : WKo (sp_split R) := by
  unfold sp_split
  split
  · intro R' hR'
    rw [← Option.some.inj hR']
    exact wk_slF hR _ (Nat.le_refl _)
  · exact wk_none
end KEEP5
