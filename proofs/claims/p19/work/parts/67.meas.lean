/-! the class: measure() -/
def DJ (R : Nat → Int32) (g : Nat) (f : Nat → Nat) (S B : Int64) (k : Nat) : Prop :=
  (f g = 0 ∧ g < nn R 0 ∧ (bit S g = true ∨ bit B g = true)) ∧ (∀ j, bit S j = true → j < nn R 0) ∧ (∀ j, bit B j = true → j < nn R 0 ∧ bit S j = false) ∧
  (∀ a, a < 60 → (bit S a = true ∨ bit B a = true) → f a ≤ 10000 * k) ∧ (∀ a, a < 60 → bit S a = false → bit B a = false → f a = 1000000000) ∧
  (∀ a b, bit S a = true → bit B b = true → f a ≤ f b) ∧
  (∀ a, (bit S a = true ∨ bit B a = true) → a ≠ g → ∃ s c, bit S c = true ∧ edge R s a c ∧ f a = sln R s + f c) ∧
  (∀ s a c, a < nn R 0 → bit S c = true → edge R s a c → (bit S a = true ∨ bit B a = true) ∧ f a ≤ sln R s + f c) ∧
  smN (fun j => if bit S j = true then 1 else 0) (nn R 0) = k
section ME
variable {β : Type} {Q : Dt → Prop} {sh : Sh} {d d0 d' : Dt} {z : Nat} {ow : Nat → Nat} {R : Nat → Int32} {N g : Nat} {L : Nat → Nat} {f : Nat → Nat} {S B : Int64} {k m : Nat}
theorem bool_f {b : Bool} (h : ¬ b = true) : b = false := by cases b <;> simp_all
theorem dj_0 (hg : g < nn R 0) (hN : WN R) : DJ R g (fun a => if a = g then 0 else 1000000000) 0 (bt g) 0 := by
  have n0 := hN.1.2
  have hb : ∀ j, bit (bt g) j = true → j = g := fun j h => by
    rw [bit_bt (by omega)] at h
    exact (of_decide_eq_true h).symm
  have hg2 : bit (bt g) g = true := by
    rw [bit_bt (by omega)]
    simp
  have h0 : ∀ j, ¬ bit 0 j = true := fun j h => by
    rw [bit_0] at h
    cases h
  refine ⟨⟨if_pos rfl, hg, Or.inr hg2⟩, fun j h => absurd h (h0 j), fun j h => ⟨by rw [hb j h]; exact hg, bit_0⟩, fun a _ h => ?_, fun a _ _ h => ?_, fun a b h => absurd h (h0 a), fun a h hne => ?_, fun s a c _ h => absurd h (h0 c), ?_⟩
  · rcases h with h | h
    · exact absurd h (h0 a)
    · show (if a = g then 0 else 1000000000) ≤ 10000 * 0
      rw [if_pos (hb a h)]
      exact Nat.zero_le _
  · show (if a = g then 0 else 1000000000) = 1000000000
    exact if_neg (fun e => by rw [e, hg2] at h; cases h)
  · rcases h with h | h
    · exact absurd h (h0 a)
    · exact absurd (hb a h) hne
  · have : (fun j => if bit 0 j = true then 1 else 0) = fun _ : Nat => 0 := funext fun j => if_neg (h0 j)
    rw [this, smN_const]
    rfl
/-- one CROSSING more is settled -/
theorem dj_step {I : Int64} {ml : Nat → Nat} {f' : Nat → Nat} (hN : WN R) (hW : WS R) (h : DJ R g f S B k) (hm : bit B m = true) (hmin : ∀ j, bit B j = true → f m ≤ f j) (hI : ∀ a, bit I a = true ↔ ∃ s, a < 60 ∧ edge R s a m) (hml : ∀ a, bit I a = true → ∃ s, edge R s a m ∧ ml a = sln R s ∧ ∀ s', edge R s' a m → sln R s ≤ sln R s')
    (hf' : ∀ a, a < 60 → f' a = if bit (I &&& ((S ||| bt m) ^^^ (-1))) a = true then min (f a) (f m + ml a) else f a) : DJ R g f' (S ||| bt m) ((B ^^^ bt m) ||| (I &&& ((S ||| bt m) ^^^ (-1)))) (k + 1) := by
  obtain ⟨⟨h1, h2, h3⟩, h4, h5, h6, h7, h8, h9, h10, h11⟩ := h
  have n0 := hN.1.2
  have hm2 := h5 m hm
  have hm60 : m < 60 := by omega
  have bS : ∀ j, bit (S ||| bt m) j = true ↔ (bit S j = true ∨ j = m) := fun j => by
    rw [bit_or, bit_bt hm60, Bool.or_eq_true, decide_eq_true_iff]
    exact or_congr Iff.rfl ⟨Eq.symm, Eq.symm⟩
  have bF : ∀ j, bit (I &&& ((S ||| bt m) ^^^ (-1))) j = true ↔ (bit I j = true ∧ ¬ bit (S ||| bt m) j = true) := fun j => by
    rw [bit_and, Bool.and_eq_true]
    refine ⟨fun q => ⟨q.1, fun r => ?_⟩, fun q => ⟨q.1, ?_⟩⟩
    · rw [bit_not (bit_big q.1), r] at q
      exact absurd q.2 (by decide)
    · rw [bit_not (bit_big q.1), bool_f q.2]
      rfl
  have bX : ∀ j, bit (B ^^^ bt m) j = true ↔ (bit B j = true ∧ j ≠ m) := fun j => by
    rw [bit_xor, bit_bt hm60]
    by_cases e : m = j
    · subst e
      rw [hm]
      simp
    · simp only [e, decide_false, Bool.xor_false]
      exact ⟨fun q => ⟨q, fun r => e r.symm⟩, fun q => q.1⟩
  have bB : ∀ j, bit ((B ^^^ bt m) ||| (I &&& ((S ||| bt m) ^^^ (-1)))) j = true ↔ ((bit B j = true ∧ j ≠ m) ∨ (bit I j = true ∧ ¬ bit S j = true ∧ j ≠ m)) := fun j => by
    rw [bit_or, Bool.or_eq_true, bX, bF, bS]
    refine or_congr Iff.rfl (and_congr Iff.rfl ⟨fun q => ⟨fun r => q (Or.inl r), fun r => q (Or.inr r)⟩, fun q r => r.elim q.1 q.2⟩)
  -- what f' is
  have fr : ∀ a, bit I a = true → ¬ bit S a = true → a ≠ m → f' a = min (f a) (f m + ml a) := fun a q1 q2 q3 => by
    obtain ⟨s, ha, he⟩ := (hI a).mp q1
    rw [hf' a ha, if_pos ((bF a).mpr ⟨q1, fun r => ((bS a).mp r).elim q2 q3⟩)]
  have fo : ∀ a, a < 60 → (¬ bit I a = true ∨ bit S a = true ∨ a = m) → f' a = f a := fun a ha q => by
    rw [hf' a ha, if_neg (fun r => ?_)]
    obtain ⟨r1, r2⟩ := (bF a).mp r
    rcases q with q | q | q
    · exact q r1
    · exact r2 ((bS a).mpr (Or.inl q))
    · exact r2 ((bS a).mpr (Or.inr q))
  have fle : ∀ a, a < 60 → f' a ≤ f a := fun a ha => by
    rw [hf' a ha]
    split <;> omega
  have fS : ∀ a, bit S a = true → f' a = f a := fun a q => fo a (by have := h4 a q; omega) (Or.inr (Or.inl q))
  have fm : f' m = f m := fo m hm60 (Or.inr (Or.inr rfl))
  have fm6 := h6 m hm60 (Or.inr hm)
  have hml2 : ∀ a, bit I a = true → 1 ≤ ml a ∧ ml a ≤ 10000 := fun a q => by
    obtain ⟨s, q1, q2, q3⟩ := hml a q
    rw [q2]
    exact edge_sln hW q1
  have hSm : smN (fun j => if bit (S ||| bt m) j = true then 1 else 0) (nn R 0) = k + 1 := by
    have e : (fun j => if bit (S ||| bt m) j = true then 1 else 0) = va_up (fun j => if bit S j = true then 1 else 0) m 1 := funext fun j => by
      by_cases q : j = m
      · subst q
        rw [va_up_s, if_pos ((bS j).mpr (Or.inr rfl))]
      · rw [va_up_n q]
        by_cases q2 : bit S j = true
        · rw [if_pos q2, if_pos ((bS j).mpr (Or.inl q2))]
        · rw [if_neg q2, if_neg (fun r => ((bS j).mp r).elim q2 q)]
    have r := smN_up (f := fun j => if bit S j = true then 1 else 0) (c := m) (v := 1) (nn R 0) hm2.1
    rw [if_neg (by rw [hm2.2]; decide)] at r
    rw [e]
    omega
  have hk60 : k + 1 ≤ 60 := by
    rw [← hSm]
    have q := smN_le (f := fun j => if bit (S ||| bt m) j = true then 1 else 0) (g := fun _ => 1) (nn R 0) (fun j _ => by
      show (if bit (S ||| bt m) j = true then 1 else 0) ≤ 1
      split <;> omega)
    rw [smN_const] at q
    omega
  refine ⟨⟨?_, h2, ?_⟩, fun j q => ?_, fun j q => ?_, fun a ha q => ?_, fun a ha q1 q2 => ?_, fun a b qa qb => ?_, fun a q hne => ?_, fun s a c ha qc he => ?_, hSm⟩
  · have := fle g (by omega)
    omega
  · rcases h3 with h3 | h3
    · exact Or.inl ((bS g).mpr (Or.inl h3))
    · by_cases e : g = m
      · exact Or.inl ((bS g).mpr (Or.inr e))
      · exact Or.inr ((bB g).mpr (Or.inl ⟨h3, e⟩))
  · rcases (bS j).mp q with q | q
    · exact h4 j q
    · rw [q]
      exact hm2.1
  · rcases (bB j).mp q with q | q
    · have r := h5 j q.1
      exact ⟨r.1, bool_f (fun r2 => ((bS j).mp r2).elim (fun r3 => by rw [r.2] at r3; cases r3) q.2)⟩
    · obtain ⟨s, hj, he⟩ := (hI j).mp q.1
      exact ⟨(edge_lt hW hN he (by omega) (by omega)).1, bool_f (fun r2 => ((bS j).mp r2).elim q.2.1 q.2.2)⟩
  · have q : bit S a = true ∨ bit B a = true ∨ bit I a = true ∧ ¬ bit S a = true ∧ a ≠ m := by
      rcases q with q | q
      · rcases (bS a).mp q with q | q
        · exact Or.inl q
        · rw [q]
          exact Or.inr (Or.inl hm)
      · rcases (bB a).mp q with q | q
        · exact Or.inr (Or.inl q.1)
        · exact Or.inr (Or.inr q)
    have := fle a ha
    rcases q with q | q | q
    · have := h6 a ha (Or.inl q)
      omega
    · have := h6 a ha (Or.inr q)
      omega
    · have := hml2 a q.1
      rw [fr a q.1 q.2.1 q.2.2]
      omega
  · have q1 : ¬ (bit S a = true ∨ a = m) := fun r => by
      rw [(bS a).mpr r] at q1
      cases q1
    have q2 : ¬ ((bit B a = true ∧ a ≠ m) ∨ (bit I a = true ∧ ¬ bit S a = true ∧ a ≠ m)) := fun r => by
      rw [(bB a).mpr r] at q2
      cases q2
    rw [fo a ha (Or.inl (fun r => q2 (Or.inr ⟨r, fun r2 => q1 (Or.inl r2), fun r2 => q1 (Or.inr r2)⟩)))]
    exact h7 a ha (bool_f (fun r => q1 (Or.inl r))) (bool_f (fun r => q2 (Or.inl ⟨r, fun r2 => q1 (Or.inr r2)⟩)))
  · have fa : f' a ≤ f m := by
      rcases (bS a).mp qa with q | q
      · rw [fS a q]
        exact h8 a m q hm
      · rw [q, fm]
        exact Nat.le_refl _
    refine Nat.le_trans fa ?_
    rcases (bB b).mp qb with q | q
    · have hb := (h5 b q.1).1
      have := hmin b q.1
      by_cases qi : bit I b = true
      · have := hml2 b qi
        rw [fr b qi (by rw [(h5 b q.1).2]; decide) q.2]
        omega
      · rw [fo b (by omega) (Or.inl qi)]
        exact this
    · obtain ⟨s, hb, he⟩ := (hI b).mp q.1
      have := hml2 b q.1
      rw [fr b q.1 q.2.1 q.2.2]
      by_cases qb2 : bit B b = true
      · have := hmin b qb2
        omega
      · have := h7 b hb (bool_f q.2.1) (bool_f qb2)
        omega
  · have old : (bit S a = true ∨ bit B a = true) → f' a = f a → ∃ s c, bit (S ||| bt m) c = true ∧ edge R s a c ∧ f' a = sln R s + f' c := fun q e => by
      obtain ⟨s, c, r1, r2, r3⟩ := h9 a q hne
      exact ⟨s, c, (bS c).mpr (Or.inl r1), r2, by rw [e, fS c r1]; exact r3⟩
    have new : bit I a = true → ¬ bit S a = true → a ≠ m → f' a = f m + ml a → ∃ s c, bit (S ||| bt m) c = true ∧ edge R s a c ∧ f' a = sln R s + f' c := fun q1 q2 q3 e => by
      obtain ⟨s, r1, r2, r3⟩ := hml a q1
      exact ⟨s, m, (bS m).mpr (Or.inr rfl), r1, by rw [e, fm]; omega⟩
    rcases q with q | q
    · rcases (bS a).mp q with q | q
      · exact old (Or.inl q) (fS a q)
      · exact old (Or.inr (by rw [q]; exact hm)) (by rw [q]; exact fm)
    · rcases (bB a).mp q with q | q
      · by_cases qi : bit I a = true
        · have qs : ¬ bit S a = true := by rw [(h5 a q.1).2]; decide
          have e := fr a qi qs q.2
          by_cases c : f a ≤ f m + ml a
          · exact old (Or.inr q.1) (by omega)
          · exact new qi qs q.2 (by omega)
        · exact old (Or.inr q.1) (fo a (by have := (h5 a q.1).1; omega) (Or.inl qi))
      · obtain ⟨s, hb, he⟩ := (hI a).mp q.1
        have e := fr a q.1 q.2.1 q.2.2
        by_cases c : f a ≤ f m + ml a
        · by_cases qb : bit B a = true
          · exact old (Or.inr qb) (by omega)
          · have := h7 a hb (bool_f q.2.1) (bool_f qb)
            have := hml2 a q.1
            omega
        · exact new q.1 q.2.1 q.2.2 (by omega)
  · rcases (bS c).mp qc with q | q
    · obtain ⟨r1, r2⟩ := h10 s a c ha q he
      have := fle a (by omega)
      rw [fS c q]
      refine ⟨?_, by omega⟩
      rcases r1 with r1 | r1
      · exact Or.inl ((bS a).mpr (Or.inl r1))
      · by_cases e : a = m
        · exact Or.inl ((bS a).mpr (Or.inr e))
        · exact Or.inr ((bB a).mpr (Or.inl ⟨r1, e⟩))
    · subst q
      rw [fm]
      by_cases qs : bit S a = true
      · have := h8 a c qs hm
        rw [fS a qs]
        exact ⟨Or.inl ((bS a).mpr (Or.inl qs)), by omega⟩
      · by_cases e : a = c
        · rw [e, fm]
          exact ⟨Or.inl ((bS c).mpr (Or.inr rfl)), by omega⟩
        · have qi : bit I a = true := (hI a).mpr ⟨s, by omega, he⟩
          obtain ⟨s', r1, r2, r3⟩ := hml a qi
          have := r3 s he
          rw [fr a qi qs e]
          exact ⟨Or.inr ((bB a).mpr (Or.inr ⟨qi, qs, e⟩)), by omega⟩
/-- the border is empty: all is told -/
theorem dj_end (hN : WN R) (hW : WS R) (h : DJ R g f S 0 k) (hk : k ≤ 60) : ∀ a, a < 60 → dOK R 1000000000 a g (nI (f a)) := by
  obtain ⟨⟨h1, h2, h3⟩, h4, h5, h6, h7, h8, h9, h10, h11⟩ := h
  have n0 := hN.1.2
  have b0 : ∀ j, ¬ bit 0 j = true := fun j h => by
    rw [bit_0] at h
    cases h
  have hS : ∀ a, a < 60 → f a < 1000000000 → bit S a = true := fun a ha hlt => by
    by_cases q : bit S a = true
    · exact q
    · have := h7 a ha (bool_f q) bit_0
      omega
  intro a ha
  by_cases han : a < nn R 0
  · have q := dst_of (F := 1000000000) hW hN h2 h1 (fun a ha hne hlt => by
      obtain ⟨s, c, r1, r2, r3⟩ := h9 a (Or.inl (hS a (by omega) hlt)) hne
      exact ⟨s, c, h4 c r1, r2, r3⟩) (fun s a c ha hc he hlt => (h10 s a c ha (hS c (by omega) hlt) he).2) (by decide) a han
    rcases Nat.lt_or_ge (f a) 1000000000 with r | r
    · have := q.1 r
      exact Or.inl ⟨f a, this.1, by omega, rfl⟩
    · refine Or.inr ⟨q.2 r, ?_⟩
      have : ¬ bit S a = true := fun r2 => by
        have := h6 a ha (Or.inl r2)
        omega
      rw [h7 a ha (bool_f this) bit_0]
  · have hns : ¬ bit S a = true := fun r => han (h4 a r)
    rw [h7 a ha (bool_f hns) bit_0]
    refine Or.inr ⟨fun p hp => ?_, rfl⟩
    cases p with
    | nil =>
      have e : a = g := hp
      exact han (by rw [e]; exact h2)
    | cons s p =>
      obtain ⟨c, q1, q2, -⟩ := hp
      exact han (edge_lt hW hN q2 (by omega) (by omega)).1
end ME
