/-! what is well made stays so: row copy copies -/
section KEEPA
variable {R R' K : Nat → Int32} {p k i g x m b hh f t : Nat} {v w : Int32}
theorem rowF_5 {j : Nat} (hj : j < 4000) : ∀ k, b + k ≤ 4000 → rowF R b k (5426 + j) = if b ≤ j ∧ j < b + k then 0 else R (5426 + j)
  | 0, _ => by
    rw [if_neg (by omega)]
    rfl
  | k + 1, h => by
    show va_up (va_up (rowF R b k) (1426 + (b + k)) 0) (5426 + (b + k)) 0 (5426 + j) = _
    by_cases e : j = b + k
    · rw [e, va_up_s, if_pos ⟨by omega, by omega⟩]
    · rw [va_up_n (by omega), va_up_n (by omega), rowF_5 hj k (by omega)]
      by_cases q : b ≤ j ∧ j < b + k
      · rw [if_pos q, if_pos ⟨q.1, by omega⟩]
      · rw [if_neg q, if_neg (by omega)]
theorem wk_row {x n : Int32} (hR : WK R) : WKo (sp_row R x n) := by
  have n2 := hR.1.1.2.2.1.2
  unfold sp_row
  by_cases q : x < 0 ∨ nI (nn R 2) ≤ x
  · rw [if_pos q]
    exact wk_none
  rw [if_neg q]
  obtain ⟨g, hg, -, e⟩ := st_of (by omega) q
  rw [e]
  by_cases h1 : n ≤ 200
  · rw [if_pos h1]
    by_cases h0 : 0 ≤ n
    · rw [if_pos h0]
      obtain ⟨m, hm, em, e3⟩ := st_of (x := n) (n := 201) (by decide) (fun r => r.elim (Int32.not_lt.mpr h0) (fun r => absurd (Int32.le_trans r h1) (by decide)))
      rw [e3]
      intro R' hR'
      have hR' := Option.some.inj hR'
      have o1 : ∀ j, j < 1426 ∨ 9426 ≤ j → R' j = va_up R (1366 + 3 * g + 2) n j := fun j hj => by
        rw [← hR']
        exact rowF_out _ (by omega) m (by omega)
      have on : ∀ j, (j < 1426 ∨ 9426 ≤ j) → j ≠ 1366 + 3 * g + 2 → R' j = R j := fun j hj hne => (o1 j hj).trans (va_up_n hne)
      have nm : R' (1366 + 3 * g + 2) = nI m := by rw [o1 _ (by omega), va_up_s, em]
      have nmm : nn R' (1366 + 3 * g + 2) = m := by
        unfold nn
        rw [nm, nI_clamp (by omega)]
      have e2 : nn R' 2 = nn R 2 := nn_eq (on 2 (by omega) (by omega))
      have e0 : nn R' 0 = nn R 0 := nn_eq (on 0 (by omega) (by omega))
      refine wk_gau hR (fun j hj => on j (by omega) (by omega)) (fun g' hg' => ?_) ⟨fun g' hg' => ?_, fun k hk => ?_⟩
      · rw [e2] at hg'
        by_cases eg : g' = g
        · rw [eg, nmm, nm]
          exact ⟨Or.inr rfl, by omega⟩
        · rw [on (1366 + 3 * g' + 2) (by omega) (by omega), nn_eq (on (1366 + 3 * g' + 2) (by omega) (by omega))]
          exact hR.1.2.1 g' hg'
      · rw [e2] at hg'
        rw [on (1366 + 3 * g') (by omega) (by omega), on (1366 + 3 * g' + 1) (by omega) (by omega), e0]
        exact hR.1.2.2.2.1.1 g' hg'
      · obtain ⟨g', hh, q1, q2, q3⟩ := hk
        rw [e2] at q1
        by_cases eg : g' = g
        · rw [eg, nmm] at q2
          have : R' (5426 + k) = 0 := by
            rw [← hR', rowF_5 (by omega) m (by omega), if_pos ⟨by rw [q3, eg]; omega, by rw [q3, eg]; omega⟩]
          exact Or.inl this
        · have en := nn_eq (on (1366 + 3 * g' + 2) (by omega) (by omega))
          rw [en] at q2
          have gk := (hR.1.2.1 g' q1).2
          have : R' (5426 + k) = R (5426 + k) := by
            rw [← hR', rowF_5 (by omega) m (by omega), if_neg (by omega), va_up_n (by omega)]
          rw [this]
          exact hR.1.2.2.2.1.2 k ⟨g', hh, q1, q2, q3⟩
    · rw [if_neg h0]
      exact wk_none
  · rw [if_neg h1]
    exact wk_none
theorem wk_cp {i j m : Int32} (hR : WK R) (hf : f < nn R 2) (ht : t < nn R 2) (h : agn R f i t j m = 0) : WK (cpR R (200 * f + i.toNatClampNeg) (200 * t + j.toNatClampNeg) m.toNatClampNeg) := by
  have n2 := hR.1.1.2.2.1.2
  obtain ⟨ii, jj, mm, rfl, rfl, rfl, h1, h2, h3, h4⟩ := agn_0 hR.1.1 hR.1.2.1 hf ht h
  rw [nI_clamp (by omega), nI_clamp (by omega), nI_clamp (by omega)]
  have out : ∀ x, x < 1426 ∨ 9426 ≤ x → cpR R (200 * f + ii) (200 * t + jj) mm x = R x := fun x hx => cp_out (by omega) hx
  have e2 : nn (cpR R (200 * f + ii) (200 * t + jj) mm) 2 = nn R 2 := nn_eq (out 2 (by omega))
  have e0 : nn (cpR R (200 * f + ii) (200 * t + jj) mm) 0 = nn R 0 := nn_eq (out 0 (by omega))
  refine wk_gau hR (fun x hx => out x (by omega)) (fun g hg => ?_) ⟨fun g hg => ?_, fun k hk => ?_⟩
  · rw [e2] at hg
    rw [out (1366 + 3 * g + 2) (by omega), nn_eq (out (1366 + 3 * g + 2) (by omega))]
    exact hR.1.2.1 g hg
  · rw [e2] at hg
    rw [out (1366 + 3 * g) (by omega), out (1366 + 3 * g + 1) (by omega), e0]
    exact hR.1.2.2.2.1.1 g hg
  · obtain ⟨g, hh, q1, q2, q3⟩ := hk
    rw [e2] at q1
    rw [nn_eq (out (1366 + 3 * g + 2) (by omega))] at q2
    have gk := (hR.1.2.1 g q1).2
    by_cases q : 200 * t + jj ≤ k ∧ k < 200 * t + jj + mm
    · have e : cpR R (200 * f + ii) (200 * t + jj) mm (5426 + k) = R (5426 + (200 * f + (ii + (k - (200 * t + jj))))) := by
        unfold cpR
        rw [if_neg (by omega), if_pos (by omega)]
        congr 1
        omega
      rw [e]
      exact hR.1.2.2.2.1.2 _ ⟨f, ii + (k - (200 * t + jj)), hf, by omega, rfl⟩
    · have e : cpR R (200 * f + ii) (200 * t + jj) mm (5426 + k) = R (5426 + k) := by
        unfold cpR
        rw [if_neg (by omega), if_neg (by omega)]
      rw [e]
      exact hR.1.2.2.2.1.2 k ⟨g, hh, q1, q2, q3⟩
theorem wk_copy {x i x2 j m : Int32} (hR : WK R) : WKo (sp_copy R x i x2 j m) := by
  have n2 := hR.1.1.2.2.1.2
  unfold sp_copy
  by_cases q : ((x < 0 ∨ nI (nn R 2) ≤ x) ∨ (x2 < 0 ∨ nI (nn R 2) ≤ x2)) ∨ R (1366 + 3 * x.toNatClampNeg + 1) ≠ R (1366 + 3 * x2.toNatClampNeg + 1)
  · rw [if_pos q]
    exact wk_none
  rw [if_neg q]
  obtain ⟨f, hf, -, e⟩ := st_of (by omega) (fun r => q (Or.inl (Or.inl r)))
  obtain ⟨t, ht, -, e2⟩ := st_of (by omega) (fun r => q (Or.inl (Or.inr r)))
  rw [e, e2]
  by_cases h : agn R f i t j m = 0
  · rw [if_pos h]
    intro R' hR'
    rw [← Option.some.inj hR']
    exact wk_cp hR hf ht h
  · rw [if_neg h]
    exact wk_none
theorem wk_cps {i j m : Int32} (hR : WK R) : ∀ k, cok R i j m k → WK (cpsF R i.toNatClampNeg j.toNatClampNeg m.toNatClampNeg k)
  | 0, _ => hR
  | k + 1, h => by
    have hk : cok R i j m k := ⟨Nat.le_of_succ_le h.1, fun g hg => h.2 g (Nat.lt_succ_of_lt hg)⟩
    have hk2 : k < nn R 2 := h.1
    have ih := wk_cps hR k hk
    have e2 := cps_nn hR.1 (t := 2) (by omega) hk
    exact wk_cp ih (by rw [e2]; exact hk2) (by rw [e2]; exact hk2) ((cps_agn hR.1 hk hk2).trans (h.2 k (Nat.lt_succ_self k)))
theorem cok_k {i j m : Int32} : ∀ (n k : Nat), k + n = nn R 2 → cok R i j m k → cok R i j m (cpk R i j m n k)
  | 0, _, _, h => h
  | n + 1, k, hk, h => by
    by_cases h0 : agn R k i k j m = 0
    · rw [show cpk R i j m (n + 1) k = cpk R i j m n (k + 1) from if_pos h0]
      exact cok_k n (k + 1) (by omega) (cok_s h (by omega) h0)
    · rw [show cpk R i j m (n + 1) k = k from if_neg h0]
      exact h
theorem wk_copies {i j m : Int32} (hR : WK R) : WKo (sp_copies R i j m) := by
  intro R' h
  unfold sp_copies cpo at h
  have h : (if cpk R i j m (nn R 2) 0 = 0 then none else some (cpsF R i.toNatClampNeg j.toNatClampNeg m.toNatClampNeg (cpk R i j m (nn R 2) 0))) = some R' := h
  split at h
  · cases h
  · rw [← Option.some.inj h]
    exact wk_cps hR _ (cok_k (nn R 2) 0 (Nat.zero_add _) ⟨Nat.zero_le _, fun g hg => absurd hg (Nat.not_lt_zero g)⟩)
end KEEPA
