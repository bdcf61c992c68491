/-! CROSSINGS as bits of a long -/
section BT
variable {x y : Int64} {i j u v : Nat} {N : Nat} {sh : Sh} {d : Dt}
def bt (u : Nat) : Int64 := (1 : Int64) <<< ((nI u).toInt64 &&& 63)
theorem bit_or : bit (x ||| y) v = (bit x v || bit y v) := BitVec.getLsbD_or
theorem bit_and : bit (x &&& y) v = (bit x v && bit y v) := BitVec.getLsbD_and
theorem bit_xor : bit (x ^^^ y) v = (bit x v ^^ bit y v) := BitVec.getLsbD_xor
theorem bit_m1 (hv : v < 64) : bit (-1) v = true := by
  show BitVec.getLsbD (-1 : Int64).toBitVec v = true
  rw [show (-1 : Int64).toBitVec = BitVec.allOnes 64 by decide, BitVec.getLsbD_allOnes]
  exact decide_eq_true hv
theorem bit_not (hv : v < 64) : bit (x ^^^ (-1)) v = !(bit x v) := by
  rw [bit_xor, bit_m1 hv]
  cases bit x v <;> rfl
theorem bit_0 : bit 0 v = false := by
  show BitVec.getLsbD (0 : Int64).toBitVec v = false
  rw [show (0 : Int64).toBitVec = 0#64 from rfl]
  simp
theorem bit_big (h : bit x v = true) : v < 64 := by
  rcases Nat.lt_or_ge v 64 with q | q
  · exact q
  · have : x.toBitVec.getLsbD v = false := BitVec.getLsbD_of_ge x.toBitVec v q
    unfold bit at h
    rw [this] at h
    cases h
set_option maxRecDepth 20000 in
theorem bt_all : ∀ u : Fin 60, (bt u.val).toBitVec = BitVec.ofNat 64 (2 ^ u.val) := by decide +kernel
theorem bt_bv (hu : u < 60) : (bt u).toBitVec = BitVec.ofNat 64 (2 ^ u) := bt_all ⟨u, hu⟩
theorem bit_bt (hu : u < 60) : bit (bt u) v = decide (u = v) := by
  unfold bit
  rw [bt_bv hu, BitVec.getLsbD_ofNat, Nat.testBit_two_pow]
  by_cases e : u = v
  · subst e
    simp
    omega
  · simp [e]
theorem bit_ext (h : ∀ j, j < 64 → bit x j = bit y j) : x = y := by
  have : x.toBitVec = y.toBitVec := BitVec.eq_of_getLsbD_eq (fun i hi => h i hi)
  exact Int64.toBitVec_inj.mp this
theorem bit_ex (h : x ≠ 0) : ∃ i, i < 64 ∧ bit x i = true ∧ ∀ j, j < i → bit x j = false := by
  have q : ∃ i, bit x i = true := by
    by_cases q : ∃ i, bit x i = true
    · exact q
    · refine absurd (bit_ext (fun j hj => ?_)) h
      rw [bit_0]
      cases e : bit x j
      · rfl
      · exact absurd ⟨j, e⟩ q
  obtain ⟨i, hi⟩ := q
  obtain ⟨m, h1, h2⟩ := least_ex (P := fun i => bit x i = true) i i (Nat.le_refl _) hi
  refine ⟨m, bit_big h1, h1, fun j hj => ?_⟩
  cases e : bit x j
  · rfl
  · have := h2 j e
    omega
/-- one less, from the lowest bit on -/
theorem bit_pred (hi : bit x i = true) (hl : ∀ j, j < i → bit x j = false) : (x - 1).toBitVec.toNat + 1 = x.toBitVec.toNat ∧ ∀ j, bit (x - 1) j = if j < i then true else if j = i then false else bit x j := by
  have hx : x.toBitVec.toNat.testBit i = true := hi
  have hx2 : ∀ j, j < i → x.toBitVec.toNat.testBit j = false := hl
  have hi64 := bit_big hi
  have lt := x.toBitVec.isLt
  generalize hn : x.toBitVec.toNat = n at hx hx2 lt
  have h1 : n % 2 ^ i = 0 := Nat.eq_of_testBit_eq (fun j => by
    rw [Nat.testBit_mod_two_pow, Nat.zero_testBit]
    by_cases q : j < i
    · rw [hx2 j q]
      simp
    · simp [q])
  have h2 : n / 2 ^ i % 2 = 1 := by
    rw [Nat.testBit_eq_decide_div_mod_eq] at hx
    exact of_decide_eq_true hx
  have hq : n / 2 ^ i = 2 * (n / 2 ^ i / 2) + 1 := by omega
  have hn2 : n = 2 ^ i * (n / 2 ^ i) := by
    have := Nat.div_add_mod n (2 ^ i)
    omega
  generalize n / 2 ^ i / 2 = q at hq
  have hp : 0 < 2 ^ i := Nat.two_pow_pos i
  have hn3 : n = 2 ^ i * (2 * q + 1) := by rw [← hq]; exact hn2
  have hpos : 0 < n := by
    rw [hn3]
    exact Nat.mul_pos hp (by omega)
  have hs : (x - 1).toBitVec.toNat = n - 1 := by
    rw [show (x - 1).toBitVec = x.toBitVec - (1 : Int64).toBitVec from rfl, BitVec.toNat_sub, hn]
    rw [show (1 : Int64).toBitVec.toNat = 1 by decide]
    omega
  have hm : n - 1 = 2 ^ i * (2 * q) + (2 ^ i - 1) := by
    rw [hn3, Nat.mul_add, Nat.mul_one]
    omega
  refine ⟨by omega, fun j => ?_⟩
  have e1 : bit (x - 1) j = (n - 1).testBit j := by
    rw [← hs]
    rfl
  have e2 : bit x j = n.testBit j := by
    rw [← hn]
    rfl
  rw [e1, e2, hm, Nat.testBit_two_pow_mul_add _ (by omega)]
  by_cases c1 : j < i
  · rw [if_pos c1, if_pos c1, Nat.testBit_two_pow_sub_one]
    simp [c1]
  · rw [if_neg c1, if_neg c1]
    have e3 : n.testBit j = (2 * q + 1).testBit (j - i) := by
      rw [hn3]
      have := Nat.testBit_two_pow_mul_add (2 * q + 1) (b := 0) (i := i) hp j
      rw [Nat.add_zero, if_neg c1] at this
      exact this
    rw [e3]
    by_cases c2 : j = i
    · rw [if_pos c2, c2, Nat.sub_self, Nat.testBit_zero]
      simp
    · rw [if_neg c2]
      obtain ⟨k, hk⟩ : ∃ k, j - i = k + 1 := ⟨j - i - 1, by omega⟩
      rw [hk, Nat.testBit_succ, Nat.testBit_succ]
      congr 1
      omega
theorem bit_clr (hi : bit x i = true) (hl : ∀ j, j < i → bit x j = false) : bit (x &&& (x - 1)) j = (bit x j && !decide (j = i)) := by
  rw [bit_and, (bit_pred hi hl).2 j]
  by_cases c1 : j < i
  · rw [if_pos c1, hl j c1]
    simp
  · rw [if_neg c1]
    by_cases c2 : j = i
    · rw [if_pos c2]
      simp [c2]
    · rw [if_neg c2]
      simp [c2]
theorem neg_not (h : 0 < x.toBitVec.toNat) : (-x).toBitVec = ~~~(x - 1).toBitVec := by
  apply BitVec.eq_of_toNat_eq
  rw [BitVec.toNat_not, show (x - 1).toBitVec = x.toBitVec - (1 : Int64).toBitVec from rfl, BitVec.toNat_sub, show (-x).toBitVec = -x.toBitVec from rfl, BitVec.toNat_neg]
  rw [show (1 : Int64).toBitVec.toNat = 1 by decide]
  have := x.toBitVec.isLt
  omega
theorem low_1 (hi : bit x i = true) (hl : ∀ j, j < i → bit x j = false) : (x &&& (-x)) = Int64.ofBitVec (BitVec.ofNat 64 (2 ^ i)) := by
  have hp := bit_pred hi hl
  refine bit_ext (fun j hj => ?_)
  have e1 : bit (-x) j = !(bit (x - 1) j) := by
    unfold bit
    rw [neg_not (by omega), BitVec.getLsbD_not]
    simp [hj]
  have e2 : bit (Int64.ofBitVec (BitVec.ofNat 64 (2 ^ i))) j = decide (i = j) := by
    show (BitVec.ofNat 64 (2 ^ i)).getLsbD j = _
    rw [BitVec.getLsbD_ofNat, Nat.testBit_two_pow]
    simp [hj]
  rw [bit_and, e1, e2, hp.2 j]
  by_cases c1 : j < i
  · rw [if_pos c1]
    simp
    omega
  · rw [if_neg c1]
    by_cases c2 : j = i
    · rw [if_pos c2, c2, hi]
      simp
    · rw [if_neg c2]
      cases bit x j <;> simp <;> omega
set_option maxRecDepth 20000 in
theorem bc_all : ∀ i : Fin 64, f_J13_bitCount_95d88 0 (as0 0).1 (Int64.ofBitVec (BitVec.ofNat 64 (2 ^ i.val)) - 1) (as0 0).2 = some (nI i.val) := by decide +kernel
theorem k_lowest (hi : bit x i = true) (hl : ∀ j, j < i → bit x j = false) : f_X11_lowest N sh x d = some (nI i) := by
  unfold f_X11_lowest
  rw [low_1 hi hl]
  have e : f_J13_bitCount_95d88 N sh (Int64.ofBitVec (BitVec.ofNat 64 (2 ^ i)) - 1) d = f_J13_bitCount_95d88 0 (as0 0).1 (Int64.ofBitVec (BitVec.ofNat 64 (2 ^ i)) - 1) (as0 0).2 := rfl
  rw [e, bc_all ⟨i, bit_big hi⟩]
  rfl
theorem cmp0 : lg_cmp x y = 0 ↔ x = y := by
  unfold lg_cmp
  by_cases h : x > y
  · rw [if_pos h]
    refine ⟨fun q => absurd q (by decide), fun q => ?_⟩
    rw [q] at h
    exact absurd h (Int64.lt_irrefl)
  · rw [if_neg h]
    by_cases h2 : x = y
    · rw [if_pos h2]
      exact ⟨fun _ => h2, fun _ => rfl⟩
    · rw [if_neg h2]
      exact ⟨fun q => absurd q (by decide), fun q => absurd q h2⟩
end BT
