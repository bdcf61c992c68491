/-! THE WAYS: a table of lengths that is tight and feasible tells the least lengths -/
def cnt (f : Nat → Nat) (t : Nat) : Nat → Nat
  | 0 => 0
  | n + 1 => cnt f t n + (if f n < t then 1 else 0)
section WYP
variable {R : Nat → Int32} {f : Nat → Nat}
theorem cnt_le {t : Nat} : ∀ n, cnt f t n ≤ n
  | 0 => Nat.le_refl 0
  | n + 1 => by
    have := cnt_le (t := t) n
    show cnt f t n + (if f n < t then 1 else 0) ≤ n + 1
    split <;> omega
theorem cnt_mono {t t' : Nat} (h : t ≤ t') : ∀ n, cnt f t n ≤ cnt f t' n
  | 0 => Nat.le_refl 0
  | n + 1 => by
    have := cnt_mono h n
    show cnt f t n + (if f n < t then 1 else 0) ≤ cnt f t' n + (if f n < t' then 1 else 0)
    split <;> split <;> omega
theorem cnt_lt {t t' c : Nat} (h : t ≤ t') (h1 : t ≤ f c) (h2 : f c < t') : ∀ n, c < n → cnt f t n + 1 ≤ cnt f t' n
  | 0, hc => absurd hc (Nat.not_lt_zero c)
  | n + 1, hc => by
    show cnt f t n + (if f n < t then 1 else 0) + 1 ≤ cnt f t' n + (if f n < t' then 1 else 0)
    by_cases e : c = n
    · subst e
      have := cnt_mono (f := f) h c
      rw [if_neg (by omega), if_pos h2]
      omega
    · have := cnt_lt h h1 h2 n (by omega)
      split <;> split <;> omega
theorem tight_le {n M F b : Nat} (hb : f b = 0) (ht : ∀ a, a < n → a ≠ b → f a < F → ∃ c, c < n ∧ f c < f a ∧ f a ≤ f c + M) : ∀ (k a : Nat), f a ≤ k → a < n → f a < F → f a ≤ M * cnt f (f a) n
  | k, a, hk, ha, hF => by
    by_cases e : a = b
    · rw [e, hb]
      exact Nat.zero_le _
    · obtain ⟨c, h1, h2, h3⟩ := ht a ha e hF
      have hk1 : 0 < k := by omega
      have ih := tight_le hb ht (k - 1) c (by omega) h1 (by omega)
      have q := cnt_lt (f := f) (t := f c) (t' := f a) (c := c) (by omega) (Nat.le_refl _) h2 n h1
      have q2 : M * (cnt f (f c) n + 1) ≤ M * cnt f (f a) n := Nat.mul_le_mul_left M q
      rw [Nat.mul_add, Nat.mul_one] at q2
      omega
  termination_by k => k
  decreasing_by omega
theorem tight_bd {n M F b a : Nat} (hb : f b = 0) (ht : ∀ a, a < n → a ≠ b → f a < F → ∃ c, c < n ∧ f c < f a ∧ f a ≤ f c + M) (ha : a < n) (hF : f a < F) : f a ≤ M * n := Nat.le_trans (tight_le hb ht (f a) a (Nat.le_refl _) ha hF) (Nat.mul_le_mul_left M (cnt_le n))
theorem edge_sln {s u v : Nat} (hW : WS R) (h : edge R s u v) : 1 ≤ sln R s ∧ sln R s ≤ 10000 := ⟨(hW s h.1).2.1.2.1, (hW s h.1).2.1.2.2⟩
theorem nI_inj {a b : Nat} (h : nI a = nI b) (ha : a < 2 ^ 31) (hb : b < 2 ^ 31) : a = b := (nI_eq ha hb).mp h
theorem edge_lt {s u v : Nat} (hW : WS R) (hN : WN R) (h : edge R s u v) (hu : u < 2 ^ 31) (hv : v < 2 ^ 31) : u < nn R 0 ∧ v < nn R 0 := by
  obtain ⟨a, b, h1, h2, h3, h4, h5⟩ := (hW s h.1).1
  have n0 := hN.1.2
  rcases h.2.2 with ⟨q1, q2⟩ | ⟨_, q1, q2⟩
  · rw [h4] at q1
    rw [h5] at q2
    have e1 := nI_inj q1 (by omega) hu
    have e2 := nI_inj q2 (by omega) hv
    omega
  · rw [h5] at q1
    rw [h4] at q2
    have e1 := nI_inj q1 (by omega) hu
    have e2 := nI_inj q2 (by omega) hv
    omega
theorem dst_of {F b : Nat} (hW : WS R) (hN : WN R) (hbn : b < nn R 0) (hb : f b = 0)
    (ht : ∀ a, a < nn R 0 → a ≠ b → f a < F → ∃ s c, c < nn R 0 ∧ edge R s a c ∧ f a = sln R s + f c)
    (hf : ∀ s a c, a < nn R 0 → c < nn R 0 → edge R s a c → f c < F → f a ≤ sln R s + f c) (hF : 700000 ≤ F) :
    ∀ a, a < nn R 0 → (f a < F → dst R a b (f a) ∧ f a ≤ 600000) ∧ (F ≤ f a → ∀ p, ¬ wk R p a b) := by
  have n0 := hN.1.2
  have ht2 : ∀ a, a < nn R 0 → a ≠ b → f a < F → ∃ c, c < nn R 0 ∧ f c < f a ∧ f a ≤ f c + 10000 := fun a h1 h2 h3 => by
    obtain ⟨s, c, q1, q2, q3⟩ := ht a h1 h2 h3
    have := edge_sln hW q2
    exact ⟨c, q1, by omega, by omega⟩
  have hbd : ∀ a, a < nn R 0 → f a < F → f a ≤ 600000 := fun a h1 h2 => by
    have := tight_bd hb ht2 h1 h2
    have : 10000 * nn R 0 ≤ 10000 * 60 := Nat.mul_le_mul_left _ n0
    omega
  have low : ∀ (p : List Nat) (a : Nat), a < nn R 0 → wk R p a b → f a < F ∧ f a ≤ wln R p := by
    intro p
    induction p with
    | nil =>
      intro a ha hw
      have hw : a = b := hw
      rw [hw, hb]
      exact ⟨by omega, Nat.zero_le _⟩
    | cons s p ih =>
      intro a ha hw
      obtain ⟨c, q1, q2, q3⟩ := hw
      obtain ⟨r1, r2⟩ := ih c q1 q3
      have := hf s a c ha q1 q2 r1
      have := edge_sln hW q2
      have := hbd c q1 r1
      refine ⟨by omega, ?_⟩
      show f a ≤ sln R s + wln R p
      omega
  have ex : ∀ (k a : Nat), f a ≤ k → a < nn R 0 → f a < F → ∃ p, wk R p a b ∧ wln R p = f a := by
    intro k
    induction k with
    | zero =>
      intro a hk ha hF
      by_cases e : a = b
      · exact ⟨[], e, by rw [e, hb]; rfl⟩
      · obtain ⟨s, c, q1, q2, q3⟩ := ht a ha e hF
        have := edge_sln hW q2
        omega
    | succ k ih =>
      intro a hk ha hF
      by_cases e : a = b
      · exact ⟨[], e, by rw [e, hb]; rfl⟩
      · obtain ⟨s, c, q1, q2, q3⟩ := ht a ha e hF
        have := edge_sln hW q2
        obtain ⟨p, r1, r2⟩ := ih c (by omega) q1 (by omega)
        refine ⟨s :: p, ⟨c, q1, q2, r1⟩, ?_⟩
        show sln R s + wln R p = f a
        omega
  intro a ha
  refine ⟨fun h => ⟨⟨ex (f a) a (Nat.le_refl _) ha h, fun p hp => (low p a ha hp).2⟩, hbd a ha h⟩, fun h p hp => ?_⟩
  have := (low p a ha hp).1
  omega
theorem dst_fun {u v n m : Nat} (h1 : dst R u v n) (h2 : dst R u v m) : n = m := by
  obtain ⟨⟨p, q1, q2⟩, q3⟩ := h1
  obtain ⟨⟨p', r1, r2⟩, r3⟩ := h2
  have := q3 p' r1
  have := r3 p q1
  omega
end WYP
