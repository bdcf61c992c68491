/-! what is well made stays so: melt snow go crossings gauge readings -/
section KEEP2
variable {R R' K : Nat → Int32} {p k i g x m b hh : Nat} {v w : Int32}
theorem wk_meF {q : Int32} (hR : WK R) : ∀ k, k ≤ nn R 1 → WK (meF R q k)
  | 0, _ => hR
  | k + 1, hk => by
    have n1 := hR.1.1.2.1.2
    exact wk_upS (k := 0) (wk_meF hR k (by omega)) (by rw [meF_nn (fun i hi => by omega)]; omega) (by omega) (fun q => by omega) (fun q => by omega)
theorem wk_melt {t s : Int32} (hR : WK R) : WKo (sp_melt R t s) := by
  unfold sp_melt
  split
  · exact wk_none
  · split
    · exact wk_none
    · intro R' h
      rw [← Option.some.inj h]
      exact wk_meF hR _ (Nat.le_refl _)
theorem wk_snF (hR : WK R) : ∀ k, k ≤ nn R 1 → WK (snF R hh k)
  | 0, _ => hR
  | k + 1, hk => by
    have n1 := hR.1.1.2.1.2
    have ih := wk_snF hR k (by omega)
    have e1 : nn (snF R hh k) 1 = nn R 1 := by
      unfold nn
      rw [snF_out (fun t ht => by omega) k (by omega)]
    show WK (if (snA R hh k (nn R 2)).2 = 0 then va_up (snF R hh k) (16 + 9 * k + 1) 1 else va_up (va_up (snF R hh k) (16 + 9 * k + 1) 0) (16 + 9 * k + 0) (snD R hh k))
    split
    · exact wk_upS (k := 1) ih (by omega) (by omega) (fun q => by omega) (fun q => by omega)
    · exact wk_upS (k := 0) (wk_upS (k := 1) ih (by omega) (by omega) (fun q => by omega) (fun q => by omega)) (by rw [nn_up (by omega)]; omega) (by omega) (fun q => by omega) (fun q => by omega)
theorem wk_snow {x : Int32} (hR : WK R) : WKo (sp_snow R x) := by
  unfold sp_snow
  split
  · exact wk_none
  · intro R' h
    rw [← Option.some.inj h]
    exact wk_snF hR _ (Nat.le_refl _)
theorem gok_N : ∀ (m k : Nat), gok R p k → gok R p (goN R p m k)
  | 0, _, h => h
  | m + 1, k, h => by
    by_cases q : gst (goF R p k) p
    · rw [show goN R p (m + 1) k = goN R p m (k + 1) from if_pos q]
      exact gok_N m (k + 1) (gok_s h q)
    · rw [show goN R p (m + 1) k = k from if_neg q]
      exact h
theorem wo_goF (hR : WK R) (hp : p < nn R 3) (h2 : R (9426 + 13 * p + 2) ≠ 1) : ∀ k, gok R p k → WO (goF R p k) ∧ goF R p k (9426 + 13 * p + 2) = R (9426 + 13 * p + 2)
  | 0, _ => ⟨hR.2, rfl⟩
  | k + 1, h => by
    have hk : gok R p k := fun j hj => h j (by omega)
    obtain ⟨i1, i2⟩ := wo_goF hR hp h2 k hk
    obtain ⟨f1, f2⟩ := goF_ok hR.1 hp k hk
    have n1 := f1.1.2.1.2
    have n3 := f1.1.2.2.2.1.2
    have gs := (goS_lt f1 (by rw [f2]; exact hp) (h k (Nat.lt_succ_self k)).1).2
    have gn : ∀ j, 9426 ≤ j → (j < 9426 + 13 * p + 8 ∨ 9426 + 13 * p + 13 ≤ j) → goP (goF R p k) p j = goF R p k j := fun j h1 h2 => goP_n (fun t _ => by omega) (by omega) (by omega)
    have g3 : nn (goP (goF R p k) p) 3 = nn (goF R p k) 3 := nn_eq (goP_n (fun t _ => by omega) (by omega) (by omega))
    refine ⟨fun p' hp' q x h5 hx => ?_, (gn _ (by omega) (by omega)).trans i2⟩
    show goP (goF R p k) p (9426 + 13 * p' + x) = 0
    have q : goP (goF R p k) p (9426 + 13 * p' + 2) = 1 := q
    have hp' : p' < nn (goP (goF R p k) p) 3 := hp'
    rw [g3] at hp'
    by_cases e : p' = p
    · subst e
      rw [gn _ (by omega) (by omega), i2] at q
      exact absurd q h2
    · rw [gn _ (by omega) (by omega)] at q ⊢
      exact i1 p' hp' q x h5 hx
theorem wk_go {x n : Int32} (hR : WK R) : WKo (sp_go R x n) := by
  have n3 := hR.1.1.2.2.2.1.2
  unfold sp_go
  by_cases h : (x < 0 ∨ nI (nn R 3) ≤ x) ∨ (n < 1 ∨ 50 < n)
  · rw [if_pos h]
    exact wk_none
  · rw [if_neg h]
    obtain ⟨p, hp, -, e⟩ := st_of (by omega) (fun q => h (Or.inl q))
    rw [e]
    by_cases h2 : R (9426 + 13 * p + 2) = 1
    · rw [if_pos h2]
      exact wk_none
    · rw [if_neg h2]
      split
      · intro R' hR'
        unfold goO at hR'
        have hR' : (if goN R p n.toNatClampNeg 0 = 0 then none else some (goF R p (goN R p n.toNatClampNeg 0))) = some R' := hR'
        have hk := gok_N (R := R) (p := p) n.toNatClampNeg 0 (fun j hj => absurd hj (Nat.not_lt_zero j))
        split at hR'
        · cases hR'
        · rw [← Option.some.inj hR']
          exact ⟨(goF_ok hR.1 hp _ hk).1, (wo_goF hR hp h2 _ hk).1⟩
      · exact wk_none
theorem wo_lo (h : WO R) (e : ∀ j, 9426 ≤ j → R' j = R j) (e3 : R' 3 = R 3) : WO R' := wo_cg h (by unfold nn; rw [e3]) e
theorem wk_gau (hR : WK R) (e : ∀ j, j < 1366 ∨ 9426 ≤ j → R' j = R j) (hG : WG R') (hC : WC R') : WK R' := ⟨wf_gau hR.1 e hG hC, wo_lo hR.2 (fun j hj => e j (Or.inr hj)) (e 3 (by omega))⟩
theorem wk_lose {x : Int32} (hR : WK R) : WKo (sp_lose R x) := by
  have n2 := hR.1.1.2.2.1.2
  unfold sp_lose
  by_cases h : x < 0 ∨ nI (nn R 2) ≤ x
  · rw [if_pos h]
    exact wk_none
  · rw [if_neg h]
    obtain ⟨g, hg, -, e⟩ := st_of (by omega) h
    intro R' hR'
    have hR' := Option.some.inj hR'
    rw [← hR', e]
    have n0 : nn (va_up R (1366 + 3 * g + 2) (-1)) (1366 + 3 * g + 2) = 0 := nn_m1 va_up_s
    refine wk_gau hR (fun j hj => va_up_n (by omega)) (fun g' hg' => ?_) ⟨fun g' hg' => ?_, fun k hk => ?_⟩
    · rw [nn_up (by omega)] at hg'
      by_cases eg : g' = g
      · subst eg
        rw [n0, va_up_s]
        exact ⟨Or.inl rfl, by omega⟩
      · rw [va_up_n (by omega), nn_up (by omega)]
        exact hR.1.2.1 g' hg'
    · rw [nn_up (by omega)] at hg'
      rw [va_up_n (by omega), va_up_n (by omega), nn_up (by omega)]
      exact hR.1.2.2.2.1.1 g' hg'
    · have hk2 : inC R k := by
        obtain ⟨g', hh, q1, q2, q3⟩ := hk
        rw [nn_up (by omega)] at q1
        by_cases eg : g' = g
        · subst eg
          rw [n0] at q2
          omega
        · rw [nn_up (by omega)] at q2
          exact ⟨g', hh, q1, q2, q3⟩
      rw [va_up_n (by omega)]
      exact hR.1.2.2.2.1.2 k hk2
theorem wk_write {v q : Int32} {h : Int32} (hR : WK R) (hg : g < nn R 2) (hq : q = 0 ∨ q = 1 ∨ q = 2) : WKo (sp_write R g h v q) := by
  have n2 := hR.1.1.2.2.1.2
  have g1 := hR.1.2.1 g hg
  unfold sp_write
  split
  · exact wk_none
  · next h1 =>
    by_cases h2 : h < 0 ∨ R (1366 + 3 * g + 2) ≤ h
    · rw [if_pos h2]
      exact wk_none
    · rw [if_neg h2]
      have e2 := g1.1.resolve_left h1
      rw [e2] at h2
      obtain ⟨j, hj, -, e⟩ := st_of (by omega) h2
      intro R' hR'
      have hR' := Option.some.inj hR'
      rw [← hR', e]
      refine wk_gau hR (fun k hk => wr_out (by omega) (by omega)) (fun g' hg' => ?_) ⟨fun g' hg' => ?_, fun k hk => ?_⟩
      · have x2 : nn (wrR R (200 * g + j) v q) 2 = nn R 2 := by unfold nn; rw [wr_out (by omega) (by omega)]
        rw [x2] at hg'
        unfold nn
        rw [wr_out (by omega) (by omega)]
        exact hR.1.2.1 g' hg'
      · have x2 : nn (wrR R (200 * g + j) v q) 2 = nn R 2 := by unfold nn; rw [wr_out (by omega) (by omega)]
        have x0 : nn (wrR R (200 * g + j) v q) 0 = nn R 0 := by unfold nn; rw [wr_out (by omega) (by omega)]
        rw [x2] at hg'
        rw [wr_out (by omega) (by omega), wr_out (by omega) (by omega), x0]
        exact hR.1.2.2.2.1.1 g' hg'
      · by_cases ek : k = 200 * g + j
        · subst ek
          unfold wrR
          rw [va_up_s]
          exact hq
        · have hk2 : inC R k := by
            obtain ⟨g', hh, q1, q2, q3⟩ := hk
            have x2 : nn (wrR R (200 * g + j) v q) 2 = nn R 2 := by unfold nn; rw [wr_out (by omega) (by omega)]
            rw [x2] at q1
            have x3 : nn (wrR R (200 * g + j) v q) (1366 + 3 * g' + 2) = nn R (1366 + 3 * g' + 2) := by unfold nn; rw [wr_out (by omega) (by omega)]
            rw [x3] at q2
            exact ⟨g', hh, q1, q2, q3⟩
          have hkb : k < 4000 := by
            obtain ⟨g', hh, q1, q2, q3⟩ := hk2
            have := (hR.1.2.1 g' q1).2
            omega
          rw [wr_out (by omega) (by omega)]
          exact hR.1.2.2.2.1.2 k hk2
end KEEP2
