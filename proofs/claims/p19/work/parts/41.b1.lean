/-! what stands while the constructors run: k cells made, w slots; ps: final references set, rs: spines of new grids, qs: other references, fi: the ints -/
def CB (s : AS) (z k w : Nat) (ps : List (Nat × Nat × Nat)) (rs : List (Nat × Nat)) (qs : List (Nat × Nat × Nat)) (fi : Nat → Nat → Int32) : Prop :=
  s.1.1 = (z, z + k, w) ∧ (∀ i, i < k → s.1.2.1 (z + i) = cTl.getD i 99 ∧ s.1.2.2.1 (z + i) = cLl.getD i 0) ∧ (∀ q ∈ ps, q.1 < k ∧ s.1.2.2.2 (z + q.1) q.2.1 = some (z + q.2.2)) ∧ (∀ r ∈ rs, r.1 < k ∧ ∀ c, c < r.2 → s.2.2.2.2 (z + r.1) c = some (z + (r.1 + 1 + c))) ∧ (∀ q ∈ qs, q.1 < k ∧ s.2.2.2.2 (z + q.1) q.2.1 = some (z + q.2.2)) ∧ (∀ i, i < k → s.2.1 (z + i) = fi i ∧ s.2.2.1 (z + i) = (fun _ => 0) ∧ s.2.2.2.1 (z + i) = fun _ => 0) ∧ (∀ i, k ≤ i → fi i = fun _ => 0)
section CBS
variable {β : Type} {Q : β → Prop} {s : AS} {z k w : Nat} {ps : List (Nat × Nat × Nat)} {rs : List (Nat × Nat)} {qs : List (Nat × Nat × Nat)} {fi : Nat → Nat → Int32}
theorem cb_0 : CB (as0 z) z 0 0 [] [] [] (fun _ _ => 0) := by
  refine ⟨rfl, fun i h => absurd h (Nat.not_lt_zero i), fun q h => absurd h List.not_mem_nil, fun q h => absurd h List.not_mem_nil, fun q h => absurd h List.not_mem_nil, fun i h => absurd h (Nat.not_lt_zero i), fun i _ => rfl⟩
/-- a new cell -/
theorem cb_push {t n m : Nat} (h : CB s z k w ps rs qs fi) (ht : cTl.getD k 99 = t) (hn : cLl.getD k 0 = n) : CB (push s t n m) z (k + 1) (w + m) ps rs qs fi := by
  obtain ⟨h1, h2, h3, h4, h5, h6, h7⟩ := h
  have e : s.1.1.2.1 = z + k := by rw [h1]
  have e1 : s.1.1.1 = z := by rw [h1]
  have e2 : s.1.1.2.2 = w := by rw [h1]
  have ne : ∀ i, i < k → z + i ≠ s.1.1.2.1 := fun i hi => by omega
  refine ⟨by show (s.1.1.1, s.1.1.2.1 + 1, s.1.1.2.2 + m) = _; rw [e1, e, e2]; rfl, fun i hi => ?_, fun q hq => ?_, fun r hr => ?_, fun q hq => ?_, fun i hi => ?_, fun i hi => h7 i (by omega)⟩
  · show va_up s.1.2.1 s.1.1.2.1 t (z + i) = _ ∧ va_up s.1.2.2.1 s.1.1.2.1 n (z + i) = _
    rcases Nat.lt_or_ge i k with q | q
    · rw [va_up_n (ne i q), va_up_n (ne i q)]
      exact h2 i q
    · have ei : i = k := by omega
      subst ei
      rw [← e, va_up_s, va_up_s, ht, hn]
      exact ⟨rfl, rfl⟩
  · have q1 := (h3 q hq).1
    refine ⟨by omega, ?_⟩
    show va_up s.1.2.2.2 s.1.1.2.1 _ (z + q.1) q.2.1 = _
    rw [va_up_n (ne _ q1)]
    exact (h3 q hq).2
  · have q1 := (h4 r hr).1
    refine ⟨by omega, fun c hc => ?_⟩
    show va_up s.2.2.2.2 s.1.1.2.1 _ (z + r.1) c = _
    rw [va_up_n (ne _ q1)]
    exact (h4 r hr).2 c hc
  · have q1 := (h5 q hq).1
    refine ⟨by omega, ?_⟩
    show va_up s.2.2.2.2 s.1.1.2.1 _ (z + q.1) q.2.1 = _
    rw [va_up_n (ne _ q1)]
    exact (h5 q hq).2
  · show va_up s.2.1 s.1.1.2.1 (fun _ => 0) (z + i) = _ ∧ va_up s.2.2.1 s.1.1.2.1 (fun _ => 0) (z + i) = _ ∧ va_up s.2.2.2.1 s.1.1.2.1 (fun _ => 0) (z + i) = _
    rcases Nat.lt_or_ge i k with q | q
    · rw [va_up_n (ne i q), va_up_n (ne i q), va_up_n (ne i q)]
      exact h6 i q
    · have ei : i = k := by omega
      subst ei
      rw [← e, va_up_s, va_up_s, va_up_s, h7 i (Nat.le_refl _)]
      exact ⟨rfl, rfl, rfl⟩
theorem cb_obj (c : Nat) (h : CB s z k w ps rs qs fi) (ht : (Nat.beq (cTl.getD k 99) (10 + c) && Nat.beq (cLl.getD k 0) 0) = true) : CB (nObj (s.1, s.2) c) z (k + 1) (w + (lay c).length) ps rs qs fi := by
  rw [Bool.and_eq_true] at ht
  exact cb_push h (Nat.eq_of_beq_eq_true ht.1) (Nat.eq_of_beq_eq_true ht.2)
theorem cb_arr {t : Nat} {n : Int32} {g : AS → Option β} (L : Nat) (h : CB s z k w ps rs qs fi) (hn : n = nI L) (ht : (Nat.beq (cTl.getD k 99) t && (Nat.beq (cLl.getD k 0) L && Nat.blt L (2 ^ 20))) = true) (kk : ∀ s', CB s' z (k + 1) (w + L) ps rs qs fi → Rn (g s') Q) : Rn ((nArr (s.1, s.2) t n).bind g) Q := by
  rw [Bool.and_eq_true, Bool.and_eq_true] at ht
  have hL : L < 2 ^ 20 := Nat.le_of_ble_eq_true ht.2.2
  subst hn
  refine rn_eq (v := push s t L L) ?_ (kk _ (cb_push h (Nat.eq_of_beq_eq_true ht.1) (Nat.eq_of_beq_eq_true ht.2.1)))
  unfold nArr
  rw [nI_clamp (by omega), if_pos ⟨nI_pos (by omega), hL⟩]
theorem cb_mul {n m : Int32} {g : AS → Option β} (N K : Nat) (h : CB s z k w ps rs qs fi) (hn : n = nI N) (hm : m = nI K) (ht : (Nat.beq (cTl.getD k 99) 5 && (Nat.beq (cLl.getD k 0) N && (Nat.blt N (2 ^ 20) && (Nat.blt K (2 ^ 20) && (List.range N).all (fun j => Nat.beq (cTl.getD (k + 1 + j) 99) 0 && Nat.beq (cLl.getD (k + 1 + j) 0) K))))) = true) (kk : ∀ s', CB s' z (k + 1 + N) (w + (N + N * K)) ps ((k, N) :: rs) qs fi → Rn (g s') Q) : Rn ((nMul (s.1, s.2) n m).bind g) Q := by
  rw [Bool.and_eq_true, Bool.and_eq_true, Bool.and_eq_true, Bool.and_eq_true] at ht
  have hN : N < 2 ^ 20 := Nat.le_of_ble_eq_true ht.2.2.1
  have hK : K < 2 ^ 20 := Nat.le_of_ble_eq_true ht.2.2.2.1
  have hall := List.all_eq_true.mp ht.2.2.2.2
  have hT := Nat.eq_of_beq_eq_true ht.1
  have hL := Nat.eq_of_beq_eq_true ht.2.1
  subst hn
  subst hm
  refine rn_eq (v := mul s N K) ?_ (kk _ ?_)
  · unfold nMul
    rw [nI_clamp (by omega), nI_clamp (by omega), if_pos ⟨nI_pos (by omega), nI_pos (by omega), hN, hK⟩]
  obtain ⟨h1, h2, h3, h4, h5, h6, h7⟩ := h
  have e : s.1.1.2.1 = z + k := by rw [h1]
  have e1 : s.1.1.1 = z := by rw [h1]
  have e2 : s.1.1.2.2 = w := by rw [h1]
  refine ⟨by show (s.1.1.1, s.1.1.2.1 + 1 + N, s.1.1.2.2 + (N + N * K)) = _; rw [e1, e, e2]; simp [Nat.add_assoc], fun i hi => ?_, fun q hq => ?_, fun r hr => ?_, fun q hq => ?_, fun i hi => ?_, fun i hi => h7 i (by omega)⟩
  · show (if z + i < s.1.1.2.1 then s.1.2.1 (z + i) else if z + i = s.1.1.2.1 then 5 else 0) = _ ∧ (if z + i < s.1.1.2.1 then s.1.2.2.1 (z + i) else if z + i = s.1.1.2.1 then N else K) = _
    rw [e]
    rcases Nat.lt_or_ge i k with q | q
    · rw [if_pos (by omega), if_pos (by omega)]
      exact h2 i q
    · have n1 : ¬ z + i < z + k := by omega
      simp only [if_neg n1]
      rcases Nat.lt_or_ge k i with q2 | q2
      · have n2 : ¬ z + i = z + k := by omega
        simp only [if_neg n2]
        have hj := hall (i - (k + 1)) (List.mem_range.mpr (by omega))
        rw [Bool.and_eq_true] at hj
        have ei : k + 1 + (i - (k + 1)) = i := by omega
        rw [ei] at hj
        exact ⟨(Nat.eq_of_beq_eq_true hj.1).symm, (Nat.eq_of_beq_eq_true hj.2).symm⟩
      · have ei : i = k := by omega
        subst ei
        rw [if_pos rfl, if_pos rfl]
        exact ⟨hT.symm, hL.symm⟩
  · have q1 := (h3 q hq).1
    refine ⟨by omega, ?_⟩
    show (if z + q.1 < s.1.1.2.1 then s.1.2.2.2 (z + q.1) else fun _ => none) q.2.1 = _
    rw [if_pos (by omega)]
    exact (h3 q hq).2
  · rcases List.mem_cons.mp hr with rfl | hr
    · refine ⟨by omega, fun c hc => ?_⟩
      show (if z + k < s.1.1.2.1 then s.2.2.2.2 (z + k) else if z + k = s.1.1.2.1 then fun i => if i < N then some (s.1.1.2.1 + 1 + i) else none else fun _ => none) c = _
      rw [e, if_neg (by omega), if_pos rfl]
      show (if c < N then some (z + k + 1 + c) else none) = _
      rw [if_pos hc]
      simp [Nat.add_assoc]
    · have q1 := (h4 r hr).1
      refine ⟨by omega, fun c hc => ?_⟩
      show (if z + r.1 < s.1.1.2.1 then s.2.2.2.2 (z + r.1) else _) c = _
      rw [if_pos (by omega)]
      exact (h4 r hr).2 c hc
  · have q1 := (h5 q hq).1
    refine ⟨by omega, ?_⟩
    show (if z + q.1 < s.1.1.2.1 then s.2.2.2.2 (z + q.1) else _) q.2.1 = _
    rw [if_pos (by omega)]
    exact (h5 q hq).2
  · show (if z + i < s.1.1.2.1 then s.2.1 (z + i) else fun _ => 0) = _ ∧ (if z + i < s.1.1.2.1 then s.2.2.1 (z + i) else fun _ => 0) = _ ∧ (if z + i < s.1.1.2.1 then s.2.2.2.1 (z + i) else fun _ => 0) = _
    rw [e]
    rcases Nat.lt_or_ge i k with q | q
    · rw [if_pos (by omega), if_pos (by omega), if_pos (by omega)]
      exact h6 i q
    · rw [if_neg (by omega), if_neg (by omega), if_neg (by omega), h7 i q]
      exact ⟨rfl, rfl, rfl⟩
theorem cb_o (i c : Nat) (h : CB s z k w ps rs qs fi) (hc : (Nat.blt i k && Nat.beq (cTl.getD i 99) (10 + c)) = true) : isO s.1 (z + i) c := by
  rw [Bool.and_eq_true] at hc
  have hi : i < k := Nat.le_of_ble_eq_true hc.1
  refine ⟨by rw [h.1]; show z ≤ z + i; omega, by rw [h.1]; show z + i < z + k; omega, Or.inl (by rw [(h.2.1 i hi).1, Nat.eq_of_beq_eq_true hc.2])⟩
theorem cb_a (i t n : Nat) (h : CB s z k w ps rs qs fi) (hc : (Nat.blt i k && (Nat.beq (cTl.getD i 99) t && Nat.beq (cLl.getD i 0) n)) = true) : isA s.1 (z + i) t ∧ s.1.2.2.1 (z + i) = n := by
  rw [Bool.and_eq_true, Bool.and_eq_true] at hc
  have hi : i < k := Nat.le_of_ble_eq_true hc.1
  exact ⟨⟨by rw [h.1]; show z ≤ z + i; omega, by rw [h.1]; show z + i < z + k; omega, by rw [(h.2.1 i hi).1, Nat.eq_of_beq_eq_true hc.2.1]⟩, by rw [(h.2.1 i hi).2, Nat.eq_of_beq_eq_true hc.2.2]⟩
theorem cb_gP {sh : Sh} {d : Dt} {g : Nat → Option β} (i c f v : Nat) (h : CB (sh, d) z k w ps rs qs fi) (hc : (Nat.blt i k && Nat.beq (cTl.getD i 99) (10 + c)) = true) (hq : (i, f, v) ∈ ps) (kk : Rn (g (z + v)) Q) : Rn ((gP sh (z + i) c f).bind g) Q := rn_eq (by unfold gP; rw [if_pos (cb_o i c h hc)]; exact (h.2.2.1 _ hq).2) kk
theorem cb_pP {g : AS → Option β} (i c f v : Nat) (h : CB s z k w ps rs qs fi) (hc : (Nat.blt i k && Nat.beq (cTl.getD i 99) (10 + c)) = true) (hq : ps.all (fun q => !(Nat.beq q.1 i && Nat.beq q.2.1 f)) = true) (kk : ∀ s', CB s' z k w ((i, f, v) :: ps) rs qs fi → Rn (g s') Q) : Rn ((pP (s.1, s.2) (z + i) c f (z + v)).bind g) Q := by
  refine rn_eq (v := ((s.1.1, s.1.2.1, s.1.2.2.1, up2 s.1.2.2.2 (z + i) f (some (z + v))), s.2)) (by unfold pP; rw [if_pos (cb_o i c h hc)]) (kk _ ?_)
  rw [Bool.and_eq_true] at hc
  have hi : i < k := Nat.le_of_ble_eq_true hc.1
  obtain ⟨h1, h2, h3, h4, h5, h6, h7⟩ := h
  refine ⟨h1, h2, fun q hq9 => ?_, h4, h5, h6, h7⟩
  show q.1 < k ∧ up2 s.1.2.2.2 (z + i) f (some (z + v)) (z + q.1) q.2.1 = _
  rcases List.mem_cons.mp hq9 with rfl | hq9
  · refine ⟨hi, ?_⟩
    show up2 s.1.2.2.2 (z + i) f (some (z + v)) (z + i) f = some (z + v)
    rw [up2_s]
    exact va_up_s
  · have q1 := h3 q hq9
    refine ⟨q1.1, ?_⟩
    have q2 := List.all_eq_true.mp hq q hq9
    by_cases e : q.1 = i
    · rw [e, up2_s, va_up_n, ← e]
      · exact q1.2
      · intro e2
        simp [e, e2] at q2
    · rw [up2_n (by omega)]
      exact q1.2
theorem cb_pQ {g : Dt → Option β} (i c f v : Nat) (h : CB s z k w ps rs qs fi) (hc : (Nat.blt i k && Nat.beq (cTl.getD i 99) (10 + c)) = true) (hr : rs.all (fun r => !(Nat.beq r.1 i)) = true) (hq : qs.all (fun q => !(Nat.beq q.1 i && Nat.beq q.2.1 f)) = true) (kk : ∀ d', CB (s.1, d') z k w ps rs ((i, f, v) :: qs) fi → Rn (g d') Q) : Rn ((pQ s.1 s.2 (z + i) c f (z + v)).bind g) Q := by
  refine rn_eq (v := wQ s.2 (z + i) f (z + v)) (by unfold pQ; rw [if_pos (cb_o i c h hc)]; rfl) (kk _ ?_)
  rw [Bool.and_eq_true] at hc
  have hi : i < k := Nat.le_of_ble_eq_true hc.1
  obtain ⟨h1, h2, h3, h4, h5, h6, h7⟩ := h
  refine ⟨h1, h2, h3, fun r hr9 => ?_, fun q hq9 => ?_, h6, h7⟩
  · have q1 := h4 r hr9
    refine ⟨q1.1, fun c9 hc9 => ?_⟩
    have q2 := List.all_eq_true.mp hr r hr9
    show up2 s.2.2.2.2 (z + i) f (some (z + v)) (z + r.1) c9 = _
    rw [up2_n]
    · exact q1.2 c9 hc9
    · intro e
      have e : r.1 = i := by omega
      simp [e] at q2
  · show q.1 < k ∧ up2 s.2.2.2.2 (z + i) f (some (z + v)) (z + q.1) q.2.1 = _
    rcases List.mem_cons.mp hq9 with rfl | hq9
    · refine ⟨hi, ?_⟩
      show up2 s.2.2.2.2 (z + i) f (some (z + v)) (z + i) f = some (z + v)
      rw [up2_s]
      exact va_up_s
    · have q1 := h5 q hq9
      refine ⟨q1.1, ?_⟩
      have q2 := List.all_eq_true.mp hq q hq9
      by_cases e : q.1 = i
      · rw [e, up2_s, va_up_n, ← e]
        · exact q1.2
        · intro e2
          simp [e, e2] at q2
      · rw [up2_n (by omega)]
        exact q1.2
/-- the ints of one cell change -/
theorem cb_ints {f : Nat → Int32} (i : Nat) (h : CB s z k w ps rs qs fi) (hi : i < k) : CB (s.1, (va_up s.2.1 (z + i) f, s.2.2)) z k w ps rs qs (va_up fi i f) := by
  obtain ⟨h1, h2, h3, h4, h5, h6, h7⟩ := h
  refine ⟨h1, h2, h3, h4, h5, fun j hj => ?_, fun j hj => ?_⟩
  · show va_up s.2.1 (z + i) f (z + j) = va_up fi i f j ∧ _
    by_cases e : j = i
    · subst e
      rw [va_up_s, va_up_s]
      exact ⟨rfl, (h6 j hj).2⟩
    · rw [va_up_n e, va_up_n (by omega)]
      exact h6 j hj
  · rw [va_up_n (by omega)]
    exact h7 j hj
theorem cb_pI {g : Dt → Option β} {v : Int32} (i c f : Nat) (h : CB s z k w ps rs qs fi) (hc : (Nat.blt i k && Nat.beq (cTl.getD i 99) (10 + c)) = true) (kk : ∀ d', CB (s.1, d') z k w ps rs qs (va_up fi i (va_up (fi i) f v)) → Rn (g d') Q) : Rn ((pI s.1 s.2 (z + i) c f v).bind g) Q := by
  refine rn_eq (v := wI s.2 (z + i) f v) (by unfold pI; rw [if_pos (cb_o i c h hc)]; rfl) (kk _ ?_)
  rw [Bool.and_eq_true] at hc
  have hi : i < k := Nat.le_of_ble_eq_true hc.1
  have e := (h.2.2.2.2.2.1 i hi).1
  have := cb_ints (f := va_up (fi i) f v) i h hi
  rw [← e] at this ⊢
  exact this
/-- a 0 where a 0 stood -/
theorem cb_pI0 {g : Dt → Option β} (i c f : Nat) (h : CB s z k w ps rs qs fi) (hc : (Nat.blt i k && Nat.beq (cTl.getD i 99) (10 + c)) = true) (h0 : fi i = fun _ => 0) (kk : ∀ d', CB (s.1, d') z k w ps rs qs fi → Rn (g d') Q) : Rn ((pI s.1 s.2 (z + i) c f 0).bind g) Q := by
  refine cb_pI i c f h hc (fun d' hd => kk d' ?_)
  have e : va_up fi i (va_up (fi i) f 0) = fi := by
    funext j
    by_cases ej : j = i
    · subst ej
      rw [va_up_s, h0]
      funext x
      unfold va_up
      split <;> rfl
    · exact va_up_n ej
  rw [e] at hd
  exact hd
theorem cb_pJ0 {g : Dt → Option β} (i c f : Nat) (h : CB s z k w ps rs qs fi) (hc : (Nat.blt i k && Nat.beq (cTl.getD i 99) (10 + c)) = true) (kk : ∀ d', CB (s.1, d') z k w ps rs qs fi → Rn (g d') Q) : Rn ((pJ s.1 s.2 (z + i) c f 0).bind g) Q := by
  refine rn_eq (v := wJ s.2 (z + i) f 0) (by unfold pJ; rw [if_pos (cb_o i c h hc)]; rfl) (kk _ ?_)
  rw [Bool.and_eq_true] at hc
  have hi : i < k := Nat.le_of_ble_eq_true hc.1
  obtain ⟨h1, h2, h3, h4, h5, h6, h7⟩ := h
  refine ⟨h1, h2, h3, h4, h5, fun j hj => ⟨(h6 j hj).1, ?_, (h6 j hj).2.2⟩, h7⟩
  show up2 s.2.2.1 (z + i) f 0 (z + j) = _
  by_cases e : j = i
  · subst e
    rw [up2_s, (h6 j hj).2.1]
    funext x
    unfold va_up
    split <;> rfl
  · rw [up2_n (by omega)]
    exact (h6 j hj).2.1
end CBS
/-- Arrays.fill of ints -/
theorem fill_loop {N : Nat} {sh : Sh} {a n : Nat} {v : Int32} (ha : isA sh a 0 ∧ sh.2.2.1 a = n) (hn : n < 2 ^ 31) : ∀ (m i fu : Nat) (d : Dt), i + m = n → m < fu → f_J7_fill_53178_5 N sh fu a v (nI i) (nI n) d = some (va_up d.1 a (fun k => if i ≤ k ∧ k < n then v else d.1 a k), d.2)
  | 0, i, fu, d, hi, hf => by
    obtain ⟨fu, rfl⟩ : ∃ q, fu = q + 1 := ⟨fu - 1, by omega⟩
    show g_J7_fill_53178_5 N sh (f_J7_fill_53178_5 N sh fu) a v (nI i) (nI n) d = _
    unfold g_J7_fill_53178_5
    rw [if_pos (nI_le (a := n) (b := i) (by omega) (by omega))]
    show some d = _
    congr 1
    refine Prod.ext ?_ rfl
    funext b
    by_cases e : b = a
    · subst e
      show d.1 b = va_up d.1 b _ b
      rw [va_up_s]
      funext k
      rw [if_neg (by omega)]
    · show d.1 b = va_up d.1 a _ b
      rw [va_up_n e]
  | m + 1, i, fu, d, hi, hf => by
    obtain ⟨fu, rfl⟩ : ∃ q, fu = q + 1 := ⟨fu - 1, by omega⟩
    show g_J7_fill_53178_5 N sh (f_J7_fill_53178_5 N sh fu) a v (nI i) (nI n) d = _
    unfold g_J7_fill_53178_5
    rw [if_neg (nI_ge (by omega) hn), q_sI ha i rfl (by omega) hn]
    show f_J7_fill_53178_5 N sh fu a v (nI i + 1) (nI n) (wI d a i v) = _
    rw [nI_1, fill_loop ha hn m (i + 1) fu (wI d a i v) (by omega) (by omega)]
    congr 1
    refine Prod.ext ?_ rfl
    funext b
    by_cases e : b = a
    · subst e
      show va_up (wI d b i v).1 b _ b = va_up d.1 b _ b
      rw [va_up_s, va_up_s, wI_s]
      funext k
      by_cases h1 : k = i
      · subst h1
        rw [if_neg (by omega), if_pos (by omega), va_up_s]
      · rw [va_up_n h1]
        by_cases h2 : i ≤ k ∧ k < n
        · rw [if_pos (by omega), if_pos h2]
        · rw [if_neg (by omega), if_neg h2]
    · show va_up (wI d a i v).1 a _ b = va_up d.1 a _ b
      rw [va_up_n e, va_up_n e, wI_n e]
theorem fill_eq {N : Nat} {sh : Sh} {d : Dt} {a n : Nat} {v : Int32} (ha : isA sh a 0 ∧ sh.2.2.1 a = n) (hn : n < 2 ^ 31) (hN : n < N) : f_J7_fill_53178 N sh a v d = some (va_up d.1 a (fun k => if k < n then v else d.1 a k), d.2) := by
  unfold f_J7_fill_53178
  rw [q_len ha (by decide)]
  show f_J7_fill_53178_5 N sh N a v (nI 0) (nI n) d = _
  rw [fill_loop ha hn n 0 N d (by omega) hN]
  simp
