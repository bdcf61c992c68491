/-! what the two sides leave of each other; what is well made stays so, over single cells of STREETS -/
def WK (R : Nat → Int32) : Prop := WF R ∧ WO R
def WKo (o : Int32 × Option (Nat → Int32)) : Prop := ∀ R', o.2 = some R' → WK R'
section KEEP
variable {s s' : AS} {d d' : Dt} {z : Nat} {ow : Nat → Nat} {R R' K : Nat → Int32} {u : Bool} {y : YL} {c i k : Nat} {v : Int32}
/-- the class leaves the reference -/
theorem ri_rfr (h : RI s.2 z R K u) (hf : RFR z s s') : RI s'.2 z R K u := by
  obtain ⟨r1, r2, r3, r4, r5⟩ := h
  have e : ∀ i, 242 ≤ i → i < 264 → s'.2.1 (z + i) = s.2.1 (z + i) := fun i h1 h2 => (hf i h1 h2).1
  unfold RI
  rw [e 242 (by omega) (by omega), e 243 (by omega) (by omega), e 244 (by omega) (by omega), e 247 (by omega) (by omega)]
  exact ⟨r1, r2, r3, r4, r5⟩
/-- the reference leaves the class -/
theorem ci_mfr (h : CI s z ow R K u y c) (hf : MFR z s.2 d') : CI (s.1, d') z ow R K u y c := by
  have hw := h.2.1
  have fd : FD (IX z ow 242 263) s.2 d' := fun a ha => by
    have q : a < z + 242 ∨ z + 264 ≤ a := by
      rcases Nat.lt_or_ge a (z + 242) with g | g
      · exact Or.inl g
      · rcases Nat.lt_or_ge a (z + 264) with g2 | g2
        · refine absurd ?_ ha
          obtain ⟨i, rfl⟩ : ∃ i, a = z + i := ⟨a - z, by omega⟩
          have hc := cO_ref (i := i) (by omega) (by omega)
          rw [Bool.and_eq_true] at hc
          unfold IX
          rw [onr_s (hw i (by omega) (Nat.eq_of_beq_eq_true hc.2)) (by omega)]
          omega
        · exact Or.inr g2
    obtain ⟨f1, f2, f3⟩ := hf
    exact ⟨(f3 a q).1, by rw [f1], (f3 a q).2, by rw [f2]⟩
  exact ci_fd h fd (Or.inr ⟨by decide, by decide⟩)
theorem wo_cg (h : WO R) (h3 : nn R' 3 = nn R 3) (e : ∀ j, 9426 ≤ j → R' j = R j) : WO R' := fun p hp q x h5 hx => by
  rw [h3] at hp
  rw [e _ (by omega)] at q ⊢
  exact h p hp q x h5 hx
theorem wk_none {w : Int32} : WKo (w, none) := fun R' e => by cases e
theorem wk_upS (hR : WK R) (hi : i < nn R 1) (hk : k < 6) (h45 : k = 4 ∨ k = 5 → v = 0 ∨ v = 1) (h3 : k = 3 → v = nI v.toNatClampNeg ∧ v.toNatClampNeg ≤ 2) : WK (va_up R (16 + 9 * i + k) v) := by
  have n1 := hR.1.1.2.1.2
  exact ⟨wf_upS hR.1 hi hk h45 h3, wo_cg hR.2 (nn_up (by omega)) (fun j hj => va_up_n (by omega))⟩
theorem wk_turn {x : Int32} (hR : WK R) (hk : k = 4 ∨ k = 5) (hv : v = 0 ∨ v = 1) : WKo (sp_turn R x k v) := by
  have n1 := hR.1.1.2.1.2
  unfold sp_turn
  by_cases h : x < 0 ∨ nI (nn R 1) ≤ x
  · rw [if_pos h]
    exact wk_none
  · rw [if_neg h]
    obtain ⟨i, hi, -, e⟩ := st_of (by omega) h
    intro R' hR'
    have hR' := Option.some.inj hR'
    rw [← hR', e]
    exact wk_upS hR hi (by omega) (fun _ => hv) (fun q => by omega)
theorem wk_sides {x n : Int32} (hR : WK R) : WKo (sp_sides R x n) := by
  have n1 := hR.1.1.2.1.2
  unfold sp_sides
  by_cases h : (x < 0 ∨ nI (nn R 1) ≤ x) ∨ (n < 0 ∨ 2 < n)
  · rw [if_pos h]
    exact wk_none
  · rw [if_neg h]
    obtain ⟨i, hi, -, e⟩ := st_of (by omega) (fun q => h (Or.inl q))
    obtain ⟨m, hm, q1, q2⟩ := st_of (x := n) (n := 3) (by decide) (fun q => h (Or.inr (q.imp id (fun q => (lt_pred (n := 3) (by decide)).mpr q))))
    intro R' hR'
    have hR' := Option.some.inj hR'
    rw [← hR', e]
    have g := wk_upS (k := 3) (v := n) hR hi (by omega) (fun q => by omega) (fun _ => ⟨by rw [q2]; exact q1, by omega⟩)
    exact wk_upS (k := 2) (v := 0) g (by rw [nn_up (by omega)]; exact hi) (by omega) (fun q => by omega) (fun q => by omega)
theorem wk_salt {x t : Int32} (hR : WK R) : WKo (sp_salt R x t) := by
  have n1 := hR.1.1.2.1.2
  unfold sp_salt
  by_cases h : (x < 0 ∨ nI (nn R 3) ≤ x) ∨ (t < 0 ∨ nI (nn R 1) ≤ t)
  · rw [if_pos h]
    exact wk_none
  · rw [if_neg h]
    obtain ⟨i, hi, -, e⟩ := st_of (x := t) (by omega) (fun q => h (Or.inr q))
    split
    · exact wk_none
    · split
      · intro R' hR'
        have hR' := Option.some.inj hR'
        rw [← hR', e]
        exact wk_upS (k := 0) hR hi (by omega) (fun q => by omega) (fun q => by omega)
      · exact wk_none
theorem wk_round {o : Int32 × List (Nat × Nat × Nat)} (hR : WK R) (hl : VL R o.2) (hn : o.2.length ≤ 2000) (h : RND R o.2 R') : WK R' := ⟨wf_rnd hR.1 hl hn h, wo_rnd (by unfold nn; rw [h.1 3 (by omega)]) h⟩
end KEEP
