/-! LEAST, pure: sets of ODD CROSSINGS as numbers -/
/-- the bits of S lie from i to m -/
def inS (S i m : Nat) : Prop := ∀ j, S.testBit j = true → i ≤ j ∧ j < m
/-- how many bits below n -/
def pcN (S : Nat) : Nat → Nat
  | 0 => 0
  | j + 1 => pcN S j + if S.testBit j = true then 1 else 0
section LE
variable {R : Nat → Int32} {a b n S i j m k : Nat} {g : Nat → Nat → Nat} {P P' : Nat → Bool} {f f' : Nat → Nat}
theorem ddB_eq {B : Nat} (h : dst R a b n) : ddB R B a b = n := by
  unfold ddB
  rw [ite_p ⟨n, h⟩]
  exact dst_fun (Classical.epsilon_spec (p := fun n => dst R a b n) ⟨n, h⟩) h
theorem ddB_no {B : Nat} (h : ¬ ∃ n, dst R a b n) : ddB R B a b = B := by
  unfold ddB
  rw [ite_n h]
theorem dd_eq (h : dst R a b n) : dd R a b = n := ddB_eq h
theorem dd_no (h : ∀ p, ¬ wk R p a b) : dd R a b = 10 ^ 12 := ddB_no (fun ⟨n, ⟨p, hp, _⟩, _⟩ => h p hp)
theorem dst_le (hW : WS R) (hN : WN R) (h : dst R a b n) (ha : a < nn R 0) : n ≤ 600000 := by
  have n0 := hN.1.2
  have hb : ddB R (n + 1) b b = 0 := ddB_eq dst_b
  have key : ∀ x, x < nn R 0 → x ≠ b → ddB R (n + 1) x b < n + 1 → ∃ c, c < nn R 0 ∧ ddB R (n + 1) c b < ddB R (n + 1) x b ∧ ddB R (n + 1) x b ≤ ddB R (n + 1) c b + 10000 := fun x hx hne hlt => by
    by_cases hq : ∃ n, dst R x b n
    · obtain ⟨k, hn⟩ := hq
      obtain ⟨s, c, t1, t2, n', m', t3, t4, t5⟩ := tight_ex hn hne
      have := edge_sln hW t2
      rw [ddB_eq t3]
      exact ⟨c, t1, by rw [ddB_eq t4]; omega, by rw [ddB_eq t4]; omega⟩
    · rw [ddB_no hq] at hlt
      omega
  have e : ddB R (n + 1) a b = n := ddB_eq h
  have := tight_bd (f := fun x => ddB R (n + 1) x b) (M := 10000) (F := n + 1) hb key ha (by show ddB R (n + 1) a b < n + 1; omega)
  have this : ddB R (n + 1) a b ≤ 10000 * nn R 0 := this
  have : 10000 * nn R 0 ≤ 10000 * 60 := Nat.mul_le_mul_left _ n0
  omega
theorem lowB_ok (h : S ≠ 0) : S.testBit (lowB S) = true ∧ ∀ j, j < lowB S → S.testBit j = false := by
  have q : ∃ i, S.testBit i = true := by
    by_cases q : ∃ i, S.testBit i = true
    · exact q
    · refine absurd (Nat.eq_of_testBit_eq (fun i => ?_)) h
      rw [Nat.zero_testBit]
      exact bool_f (fun r => q ⟨i, r⟩)
  obtain ⟨i, hi⟩ := q
  obtain ⟨m, h1, h2⟩ := least_ex (P := fun i => S.testBit i = true) i i (Nat.le_refl _) hi
  exact Classical.epsilon_spec (p := fun i => S.testBit i = true ∧ ∀ j, j < i → S.testBit j = false) ⟨m, h1, fun j hj => bool_f (fun r => by have := h2 j r; omega)⟩
theorem lowB_eq (h1 : S.testBit i = true) (h2 : ∀ j, j < i → S.testBit j = false) : lowB S = i := by
  have h0 : S ≠ 0 := fun e => by
    rw [e, Nat.zero_testBit] at h1
    cases h1
  obtain ⟨a1, a2⟩ := lowB_ok h0
  rcases Nat.lt_trichotomy (lowB S) i with q | q | q
  · rw [h2 _ q] at a1
    cases a1
  · exact q
  · rw [a2 _ q] at h1
    cases h1
theorem rm2_bit (hi : S.testBit i = true) (hj : S.testBit j = true) (hne : i ≠ j) : (rm2 S i j).testBit k = (S.testBit k && !decide (k = i) && !decide (k = j)) := by
  unfold rm2
  rw [Nat.testBit_xor, Nat.testBit_xor, Nat.testBit_two_pow, Nat.testBit_two_pow]
  by_cases c1 : k = i
  · subst c1
    have c2 : ¬ j = k := fun e => hne e.symm
    have c3 : ¬ k = j := hne
    simp [hi, c2]
  · by_cases c2 : k = j
    · subst c2
      have c3 : ¬ i = k := fun e => c1 e.symm
      simp [hj, c3]
    · have c3 : ¬ i = k := fun e => c1 e.symm
      have c4 : ¬ j = k := fun e => c2 e.symm
      simp [c1, c2, c3, c4]
theorem rm2_in (h : inS S i m) (h0 : S ≠ 0) (hj : S.testBit j = true) (hlt : lowB S < j) : inS (rm2 S (lowB S) j) (lowB S + 1) m ∧ i ≤ lowB S ∧ lowB S < m := by
  obtain ⟨a1, a2⟩ := lowB_ok h0
  refine ⟨fun k hk => ?_, h _ a1⟩
  rw [rm2_bit a1 hj (by omega), Bool.and_eq_true, Bool.and_eq_true] at hk
  have q := h k hk.1.1
  refine ⟨?_, q.2⟩
  rcases Nat.lt_trichotomy k (lowB S) with r | r | r
  · rw [a2 k r] at hk
    exact absurd hk.1.1 (by decide)
  · rw [r] at hk
    simp at hk
  · omega
theorem rm2_lt (hj : S.testBit j = true) (h0 : S ≠ 0) (hlt : lowB S < j) : rm2 S (lowB S) j < S := by
  obtain ⟨a1, a2⟩ := lowB_ok h0
  have e : S &&& rm2 S (lowB S) j = rm2 S (lowB S) j := Nat.eq_of_testBit_eq (fun k => by
    rw [Nat.testBit_and, rm2_bit a1 hj (by omega)]
    cases S.testBit k <;> simp)
  have le : rm2 S (lowB S) j ≤ S := by
    rw [← e]
    exact Nat.and_le_left
  have ne : rm2 S (lowB S) j ≠ S := fun q => by
    have r : (rm2 S (lowB S) j).testBit j = S.testBit j := by rw [q]
    rw [rm2_bit a1 hj (by omega), hj] at r
    simp at r
  omega
theorem mnJ_cg (h : ∀ j, j < n → P' j = P j) (hf : ∀ j, j < n → P j = true → f' j = f j) : mnJ P' f' n = mnJ P f n := by
  induction n with
  | zero => rfl
  | succ n ih =>
    have e := ih (fun j hj => h j (by omega)) (fun j hj => hf j (by omega))
    unfold mnJ
    rw [h n (by omega), e]
    by_cases c : P n = true
    · rw [if_pos c, if_pos c, hf n (by omega) c]
    · rw [if_neg c, if_neg c]
theorem lsF_fu : ∀ (k k' S i : Nat), inS S i m → m ≤ k + i → m ≤ k' + i → lsF g m k S = lsF g m k' S
  | 0, 0, S, i, h, _, _ => rfl
  | 0, k' + 1, S, i, h, h1, h2 => by
    have e : S = 0 := Nat.eq_of_testBit_eq (fun j => by
      rw [Nat.zero_testBit]
      exact bool_f (fun r => by have := h j r; omega))
    rw [e]
    show 0 = (if (0 : Nat) = 0 then 0 else _)
    rw [if_pos rfl]
  | k + 1, 0, S, i, h, h1, h2 => by
    have e : S = 0 := Nat.eq_of_testBit_eq (fun j => by
      rw [Nat.zero_testBit]
      exact bool_f (fun r => by have := h j r; omega))
    rw [e]
    show (if (0 : Nat) = 0 then 0 else _) = 0
    rw [if_pos rfl]
  | k + 1, k' + 1, S, i, h, h1, h2 => by
    unfold lsF
    by_cases h0 : S = 0
    · rw [if_pos h0, if_pos h0]
    · rw [if_neg h0, if_neg h0]
      refine mnJ_cg (fun _ _ => rfl) (fun j hj hP => ?_)
      rw [Bool.and_eq_true, decide_eq_true_iff] at hP
      have q := rm2_in h h0 hP.2 hP.1
      rw [lsF_fu k k' _ (lowB S + 1) q.1 (by omega) (by omega)]
/-- LEAST of S: what it is made of -/
theorem lsF_eq (h : inS S 0 m) (h0 : S ≠ 0) : lsF g m m S = mnJ (fun j => decide (lowB S < j) && S.testBit j) (fun j => g (lowB S) j + lsF g m m (rm2 S (lowB S) j)) m := by
  obtain ⟨a1, a2⟩ := lowB_ok h0
  have hm := (h _ a1).2
  rw [lsF_fu m (m + 1) S 0 h (by omega) (by omega)]
  show (if S = 0 then 0 else _) = _
  rw [if_neg h0]
theorem mnJ_fin {B : Nat} : ∀ n, (∀ j, j < n → P j = true → f j ≤ B ∨ 10 ^ 12 ≤ f j) → mnJ P f n ≤ B ∨ 10 ^ 12 ≤ mnJ P f n
  | 0, h => Or.inr (Nat.le_refl _)
  | n + 1, h => by
    have ih := mnJ_fin n (fun j hj => h j (by omega))
    unfold mnJ
    by_cases c : P n = true
    · have := h n (by omega) c
      rw [if_pos c]
      omega
    · rw [if_neg c]
      exact ih
theorem lsF_fin (hg : ∀ i j, g i j ≤ 600000 ∨ 10 ^ 12 ≤ g i j) : ∀ (k S : Nat), lsF g m k S ≤ 600000 * k ∨ 10 ^ 12 ≤ lsF g m k S
  | 0, S => Or.inl (Nat.le_refl _)
  | k + 1, S => by
    unfold lsF
    by_cases h0 : S = 0
    · rw [if_pos h0]
      exact Or.inl (Nat.zero_le _)
    · rw [if_neg h0]
      refine mnJ_fin m (fun j _ _ => ?_)
      have := hg (lowB S) j
      have := lsF_fin hg k (rm2 S (lowB S) j)
      omega
theorem mnJ_at {B : Nat} : ∀ n, mnJ P f n ≤ B → B < 10 ^ 12 → ∃ j, j < n ∧ P j = true ∧ f j = mnJ P f n
  | 0, h, hB => by
    have h : 10 ^ 12 ≤ B := h
    omega
  | n + 1, h, hB => by
    unfold mnJ at h ⊢
    by_cases c : P n = true
    · rw [if_pos c] at h ⊢
      by_cases q : f n ≤ mnJ P f n
      · exact ⟨n, by omega, c, by omega⟩
      · obtain ⟨j, h1, h2, h3⟩ := mnJ_at n (B := B) (by omega) hB
        exact ⟨j, by omega, h2, by omega⟩
    · rw [if_neg c] at h ⊢
      obtain ⟨j, h1, h2, h3⟩ := mnJ_at n h hB
      exact ⟨j, by omega, h2, h3⟩
theorem mnJ_le : ∀ n j, j < n → P j = true → mnJ P f n ≤ f j
  | 0, j, hj, _ => absurd hj (Nat.not_lt_zero j)
  | n + 1, j, hj, hp => by
    unfold mnJ
    by_cases e : j = n
    · subst e
      rw [if_pos hp]
      omega
    · have := mnJ_le n j (by omega) hp
      by_cases c : P n = true
      · rw [if_pos c]
        omega
      · rw [if_neg c]
        exact this
theorem mnJ_inf : ∀ n, (∀ j, j < n → P j = true → 10 ^ 12 ≤ f j) → 10 ^ 12 ≤ mnJ P f n
  | 0, _ => Nat.le_refl _
  | n + 1, h => by
    have ih := mnJ_inf n (fun j hj => h j (by omega))
    unfold mnJ
    by_cases c : P n = true
    · have := h n (by omega) c
      rw [if_pos c]
      omega
    · rw [if_neg c]
      exact ih
theorem pc_rm (hi : S.testBit i = true) (hj : S.testBit j = true) (hne : i ≠ j) : ∀ n, pcN (rm2 S i j) n + ((if i < n then 1 else 0) + if j < n then 1 else 0) = pcN S n
  | 0 => rfl
  | n + 1 => by
    have ih := pc_rm hi hj hne n
    show (pcN (rm2 S i j) n + if (rm2 S i j).testBit n = true then 1 else 0) + _ = pcN S n + if S.testBit n = true then 1 else 0
    rw [rm2_bit hi hj hne]
    by_cases c1 : n = i
    · subst c1
      have c2 : ¬ n = j := hne
      rw [hi, if_pos rfl, if_neg (by simp)]
      have d1 : ¬ n < n := by omega
      rw [if_neg d1] at ih
      rw [if_pos (by omega)]
      by_cases c3 : j < n
      · rw [if_pos c3] at ih
        rw [if_pos (by omega)]
        omega
      · rw [if_neg c3] at ih
        rw [if_neg (by omega)]
        omega
    · by_cases c2 : n = j
      · subst c2
        rw [hj, if_pos rfl, if_neg (by simp)]
        have d1 : ¬ n < n := by omega
        rw [if_neg d1] at ih
        rw [if_pos (show n < n + 1 by omega)]
        by_cases c3 : i < n
        · rw [if_pos c3] at ih
          rw [if_pos (by omega)]
          omega
        · rw [if_neg c3] at ih
          rw [if_neg (by omega)]
          omega
      · have e : (S.testBit n && !decide (n = i) && !decide (n = j)) = S.testBit n := by simp [c1, c2]
        rw [e]
        have d1 : (if i < n + 1 then 1 else 0) = (if i < n then 1 else 0) := by
          by_cases q : i < n
          · rw [if_pos q, if_pos (by omega)]
          · rw [if_neg q, if_neg (by omega)]
        have d2 : (if j < n + 1 then 1 else 0) = (if j < n then 1 else 0) := by
          by_cases q : j < n
          · rw [if_pos q, if_pos (by omega)]
          · rw [if_neg q, if_neg (by omega)]
        rw [d1, d2]
        omega
theorem pc_0 : ∀ n, pcN 0 n = 0
  | 0 => rfl
  | n + 1 => by
    show pcN 0 n + (if Nat.testBit 0 n = true then 1 else 0) = 0
    rw [pc_0 n, Nat.zero_testBit, if_neg (by decide)]
/-- a set of odd many can't be PAIRED -/
theorem lsF_odd : ∀ (k S i : Nat), inS S i m → m ≤ k + i → pcN S m % 2 = 1 → 10 ^ 12 ≤ lsF g m k S
  | 0, S, i, h, hk, ho => by
    have e : S = 0 := Nat.eq_of_testBit_eq (fun j => by
      rw [Nat.zero_testBit]
      exact bool_f (fun r => by have := h j r; omega))
    rw [e, pc_0] at ho
    omega
  | k + 1, S, i, h, hk, ho => by
    have h0 : S ≠ 0 := fun e => by
      rw [e, pc_0] at ho
      omega
    unfold lsF
    rw [if_neg h0]
    obtain ⟨a1, a2⟩ := lowB_ok h0
    refine mnJ_inf m (fun j hj hP => ?_)
    rw [Bool.and_eq_true, decide_eq_true_iff] at hP
    have q := rm2_in h h0 hP.2 hP.1
    have p := pc_rm a1 hP.2 (by omega) m
    rw [if_pos q.2.2, if_pos hj] at p
    have := lsF_odd k _ (lowB S + 1) q.1 (by omega) (by omega)
    omega
/-- a set of even many can be PAIRED, if all are joined -/
theorem lsF_even (hg : ∀ i j, i < m → j < m → g i j ≤ 600000) : ∀ (k S i : Nat), inS S i m → m ≤ k + i → pcN S m % 2 = 0 → lsF g m k S ≤ 600000 * k
  | 0, S, i, h, hk, ho => Nat.le_refl _
  | k + 1, S, i, h, hk, ho => by
    unfold lsF
    by_cases h0 : S = 0
    · rw [if_pos h0]
      exact Nat.zero_le _
    · rw [if_neg h0]
      obtain ⟨a1, a2⟩ := lowB_ok h0
      -- another one
      have ex : ∃ j, S.testBit j = true ∧ lowB S < j := by
        by_cases q : ∃ j, S.testBit j = true ∧ lowB S < j
        · exact q
        · exfalso
          have one : ∀ n, pcN S n = if lowB S < n then 1 else 0 := fun n => by
            induction n with
            | zero => rfl
            | succ n ih =>
              show pcN S n + (if S.testBit n = true then 1 else 0) = _
              rw [ih]
              rcases Nat.lt_trichotomy n (lowB S) with r | r | r
              · rw [a2 n r, if_neg (by omega), if_neg (by decide), if_neg (by omega)]
              · rw [r, a1, if_neg (by omega), if_pos rfl, if_pos (by omega)]
              · rw [bool_f (fun r2 => q ⟨n, r2, r⟩), if_pos r, if_neg (by decide), if_pos (by omega)]
          rw [one m, if_pos (h _ a1).2] at ho
          omega
      obtain ⟨j, j1, j2⟩ := ex
      have hjm := (h j j1).2
      have q := rm2_in h h0 j1 j2
      have p := pc_rm a1 j1 (by omega) m
      rw [if_pos q.2.2, if_pos hjm] at p
      have r := lsF_even hg k _ (lowB S + 1) q.1 (by omega) (by omega)
      have r2 := hg (lowB S) j q.2.2 hjm
      refine Nat.le_trans (mnJ_le m j hjm (by simp [j1, j2])) ?_
      show g (lowB S) j + lsF g m k (rm2 S (lowB S) j) ≤ 600000 * (k + 1)
      omega
end LE
