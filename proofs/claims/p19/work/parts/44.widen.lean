def smN (f : Nat → Nat) : Nat → Nat
  | 0 => 0
  | n + 1 => smN f n + f n
theorem smN_out {f : Nat → Nat} {c v : Nat} : ∀ n, n ≤ c → smN (va_up f c v) n = smN f n
  | 0, _ => rfl
  | n + 1, h => by
    show smN (va_up f c v) n + va_up f c v n = smN f n + f n
    rw [smN_out n (by omega), va_up_n (by omega)]
theorem smN_up {f : Nat → Nat} {c v : Nat} : ∀ n, c < n → smN (va_up f c v) n + f c = smN f n + v
  | 0, h => absurd h (Nat.not_lt_zero c)
  | n + 1, h => by
    show smN (va_up f c v) n + va_up f c v n + f c = smN f n + f n + v
    rcases Nat.lt_or_ge c n with q | q
    · have := smN_up (f := f) (v := v) n q
      rw [va_up_n (by omega)]
      omega
    · have e : c = n := by omega
      subst e
      rw [smN_out c (Nat.le_refl _), va_up_s]
      omega
theorem smN_le {f g : Nat → Nat} : ∀ n, (∀ k, k < n → f k ≤ g k) → smN f n ≤ smN g n
  | 0, _ => Nat.le_refl _
  | n + 1, h => Nat.add_le_add (smN_le n (fun k hk => h k (by omega))) (h n (by omega))
theorem smN_const {c : Nat} : ∀ n, smN (fun _ => c) n = n * c
  | 0 => by rw [Nat.zero_mul]; rfl
  | n + 1 => by
    show smN (fun _ => c) n + c = (n + 1) * c
    rw [smN_const n, Nat.succ_mul]
theorem o_min_nI {a b : Nat} (ha : a < 2 ^ 31) (hb : b < 2 ^ 31) : o_min (nI a) (nI b) = nI (min a b) := by
  unfold o_min
  by_cases h : b < a
  · rw [if_pos (nI_lt h ha), Nat.min_eq_right (by omega)]
  · rw [if_neg (nI_nlt (by omega) hb), Nat.min_eq_left (by omega)]
theorem o_max_nI {a b : Nat} (ha : a < 2 ^ 31) (hb : b < 2 ^ 31) : o_max (nI a) (nI b) = nI (max a b) := by
  unfold o_max
  by_cases h : a < b
  · rw [if_pos (nI_lt h hb), Nat.max_eq_right (by omega)]
  · rw [if_neg (nI_nlt (by omega) ha), Nat.max_eq_left (by omega)]
section PU
variable {s : AS} {t n m a : Nat}
theorem push_A {t2 l : Nat} (h : isA s.1 a t2 ∧ s.1.2.2.1 a = l) : isA (push s t n m).1 a t2 ∧ (push s t n m).1.2.2.1 a = l := by
  obtain ⟨⟨h1, h2, h3⟩, h4⟩ := h
  have ne : a ≠ s.1.1.2.1 := by omega
  refine ⟨⟨h1, Nat.lt_succ_of_lt h2, ?_⟩, ?_⟩
  · show va_up s.1.2.1 s.1.1.2.1 t a = t2
    rw [va_up_n ne]
    exact h3
  · show va_up s.1.2.2.1 s.1.1.2.1 n a = l
    rw [va_up_n ne]
    exact h4
theorem push_N (h : s.1.1.1 ≤ s.1.1.2.1) : isA (push s t n m).1 s.1.1.2.1 t ∧ (push s t n m).1.2.2.1 s.1.1.2.1 = n := ⟨⟨h, Nat.lt_succ_self _, va_up_s⟩, va_up_s⟩
theorem push_es {X : Nat → Prop} {ow : Nat → Nat} {q : Nat} : ES X s ow (push s t n m) (va_up ow s.1.1.2.1 q) := by
  refine ⟨rfl, Nat.le_succ _, fun a ha => ?_⟩
  have ne : a ≠ s.1.1.2.1 := by omega
  exact ⟨va_up_n ne, va_up_n ne, va_up_n ne, va_up_n ne, fun _ => ⟨va_up_n ne, va_up_n ne, va_up_n ne, va_up_n ne⟩⟩
end PU
/-- Arrays.copyOf of ints, to another length -/
theorem copyOf_eq {N : Nat} {s : AS} {a l m : Nat} (ha : isA s.1 a 0 ∧ s.1.2.2.1 a = l) (hne : l ≠ m) (hl : l < 2 ^ 20) (hm : m < 2 ^ 20) : f_J7_copyOf_59c91 N a (nI m) s = some (s.1.1.2.1, ((push s 0 m m).1, (va_up (push s 0 m m).2.1 s.1.1.2.1 (fun k => if k < min l m then s.2.1 a k else 0), (push s 0 m m).2.2))) := by
  have hz : s.1.1.1 ≤ s.1.1.2.1 := by have := ha.1.1; have := ha.1.2.1; omega
  have hlt : a < s.1.1.2.1 := ha.1.2.1
  have hA := push_A (t := 0) (n := m) (m := m) ha
  have hB := push_N (s := s) (t := 0) (n := m) (m := m) hz
  refine rn_val ?_
  unfold f_J7_copyOf_59c91
  refine rn_eq (q_len ha (by decide)) ?_
  refine rn_t (fun e => hne ((nI_eq (by omega) (by omega)).mp e).symm) ?_
  refine rn_eq (v := push s 0 m m) ?_ ?_
  · unfold nArr
    rw [nI_clamp (by omega), if_pos ⟨nI_pos (by omega), hm⟩]
  unfold f_J7_copyOf_59c91_17
  refine rn_eq (q_len hA (by decide)) ?_
  rw [o_min_nI (by omega) (by omega)]
  refine rn_eq (v := (va_up (push s 0 m m).2.1 s.1.1.2.1 (fun k => if k < min l m then s.2.1 a k else 0), (push s 0 m m).2.2)) ?_ (rn_some rfl)
  unfold cpy
  rw [if_neg (by rw [hA.1.2.2]; decide), if_neg (by rw [hA.1.2.2]; decide)]
  unfold cpI
  rw [hA.2, hB.2]
  have e0 : (0 : Int32).toNatClampNeg = 0 := by decide
  rw [e0, nI_clamp (by omega), if_pos ⟨hA.1, hB.1, by decide, by decide, nI_pos (by omega), by omega, by omega⟩]
  congr 2
  have e1 : (push s 0 m m).2.1 a = s.2.1 a := va_up_n (by omega)
  have e2 : (push s 0 m m).2.1 s.1.1.2.1 = fun _ => 0 := va_up_s
  rw [e1, e2]
  congr 1
  funext k
  show (if 0 ≤ k ∧ k < 0 + min l m then s.2.1 a (0 + (k - 0)) else 0) = _
  by_cases h : k < min l m
  · rw [if_pos (by omega), if_pos h, Nat.sub_zero, Nat.zero_add]
  · rw [if_neg (by omega), if_neg h]
theorem widen_loop {N z o nc S rows : Nat} {V : Nat → Nat → Int32} (hk : tck o nc = true) (hrow : rows < 2 ^ 19) : ∀ (m c fu : Nat) (s : AS) (ow L : Nat → Nat), c + m = nc → m < fu → KS s.1 z → OWS ow z → TB s.1 s.2 z ow o nc S V L → (∀ j, j < c → rows ≤ L j) →
    Rn (f_X8_widen_2 N fu (z + o) (nI rows) (nI c) s) (fun s' => ∃ ow' L', ES (TX z ow o) s ow s' ow' ∧ TB s'.1 s'.2 z ow' o nc S V L' ∧ (∀ j, j < nc → rows ≤ L' j ∧ L j ≤ L' j ∧ L' j ≤ max (L j) (2 * rows)) ∧ s'.1.1.2.2 + 2 * smN L nc ≤ s.1.1.2.2 + 2 * smN L' nc ∧ s'.1.1.2.1 + smN L nc ≤ s.1.1.2.1 + smN L' nc)
  | 0, c, fu, s, ow, L, hc, hf, hK, hw, ht, hj => by
    obtain ⟨fu, rfl⟩ : ∃ q, fu = q + 1 := ⟨fu - 1, by omega⟩
    show Rn (g_X8_widen_2 N (f_X8_widen_2 N fu) (z + o) (nI rows) (nI c) s) _
    unfold g_X8_widen_2
    have hn := tck_n hk
    refine r_gP hK o 8 0 (o + 1) (tck_1 hk) (tck_3 hk) ?_
    refine rn_eq (q_len (ks_a hK (o + 1) 5 nc (tck_2 hk)) (by decide)) ?_
    refine rn_t (nI_le (by omega) (by omega)) ?_
    exact rn_some ⟨ow, L, ES.rf, ht, fun j hj9 => ⟨hj j (by omega), Nat.le_refl _, Nat.le_max_left _ _⟩, Nat.le_refl _, Nat.le_refl _⟩
  | m + 1, c, fu, s, ow, L, hc, hf, hK, hw, ht, hj => by
    obtain ⟨fu, rfl⟩ : ∃ q, fu = q + 1 := ⟨fu - 1, by omega⟩
    show Rn (g_X8_widen_2 N (f_X8_widen_2 N fu) (z + o) (nI rows) (nI c) s) _
    unfold g_X8_widen_2
    have hn := tck_n hk
    have hz := hK.2.1
    have hcn : c < nc := by omega
    obtain ⟨hS, ht9⟩ := id ht
    obtain ⟨a, ha, hwa, hA, hL, hSL, hLb, hV⟩ := ht9 c hcn
    have hlt : a < s.1.1.2.1 := hA.2.1
    refine r_gP hK o 8 0 (o + 1) (tck_1 hk) (tck_3 hk) ?_
    refine rn_eq (q_len (ks_a hK (o + 1) 5 nc (tck_2 hk)) (by decide)) ?_
    refine rn_f (nI_ge hcn (by omega)) ?_
    refine r_gP hK o 8 0 (o + 1) (tck_1 hk) (tck_3 hk) ?_
    refine rn_eq (q_aQ (ks_a hK (o + 1) 5 nc (tck_2 hk)) c a rfl hcn (by omega) ha) ?_
    refine rn_eq (q_len ⟨hA, hL⟩ (by decide)) ?_
    by_cases hle : rows ≤ L c
    · refine rn_t (nI_le hle (by omega)) ?_
      unfold f_X8_widen_50
      rw [nI_1]
      exact widen_loop hk hrow m (c + 1) fu s ow L (by omega) (by omega) hK hw ht (fun j hj9 => by
        rcases Nat.lt_or_ge j c with q | q
        · exact hj j q
        · have e : j = c := by omega
          rw [e]
          exact hle)
    · refine rn_f (nI_ge (by omega) (by omega)) ?_
      refine r_gP hK o 8 0 (o + 1) (tck_1 hk) (tck_3 hk) ?_
      refine r_gP hK o 8 0 (o + 1) (tck_1 hk) (tck_3 hk) ?_
      refine rn_eq (q_aQ (ks_a hK (o + 1) 5 nc (tck_2 hk)) c a rfl hcn (by omega) ha) ?_
      refine r_gP hK o 8 0 (o + 1) (tck_1 hk) (tck_3 hk) ?_
      refine rn_eq (q_aQ (ks_a hK (o + 1) 5 nc (tck_2 hk)) c a rfl hcn (by omega) ha) ?_
      refine rn_eq (q_len ⟨hA, hL⟩ (by decide)) ?_
      have e2 : o_max (nI rows) ((2 : Int32) * nI (L c)) = nI (max rows (2 * L c)) := by
        rw [show (2 : Int32) = nI 2 from rfl, pk_mul, o_max_nI (by omega) (by omega)]
      rw [e2]
      have hm1 : max rows (2 * L c) < 2 ^ 20 := by omega
      have hm2 : L c < max rows (2 * L c) := by omega
      refine rn_eq (copyOf_eq (s := s) ⟨hA, hL⟩ (by omega) (by omega) hm1) ?_
      generalize hmm : max rows (2 * L c) = mm at hm1 hm2 ⊢
      have hes := push_es (s := s) (t := 0) (n := mm) (m := mm) (X := TX z ow o) (ow := ow) (q := 16 * o + c + 1)
      have hK1 : KS (push s 0 mm mm).1 z := KS.es hK hes
      have hN1 := push_N (s := s) (t := 0) (n := mm) (m := mm) (by have := hK.1; omega)
      unfold f_X8_widen_49
      refine rn_eq (v := wQ (va_up (push s 0 mm mm).2.1 s.1.1.2.1 (fun k => if k < min (L c) mm then s.2.1 a k else 0), (push s 0 mm mm).2.2) (z + (o + 1)) c s.1.1.2.1) ?_ ?_
      · have hsp := ks_a hK1 (o + 1) 5 nc (tck_2 hk)
        obtain ⟨q1, q2⟩ := in_of (x := nI c) rfl hcn (by omega : nc < 2 ^ 31)
        unfold sR
        show (if isA (push s 0 mm mm).1 (z + (o + 1)) 5 ∧ inA (nI c) ((push s 0 mm mm).1.2.2.1 (z + (o + 1))) ∧ isA (push s 0 mm mm).1 s.1.1.2.1 0 then _ else _) = _
        rw [hsp.2, if_pos ⟨hsp.1, q1, hN1.1⟩, q2]
        rfl
      unfold f_X8_widen_50
      rw [nI_1]
      -- the state behind this column
      have hes2 : ES (TX z ow o) s ow ((push s 0 mm mm).1, wQ (va_up (push s 0 mm mm).2.1 s.1.1.2.1 (fun k => if k < min (L c) mm then s.2.1 a k else 0), (push s 0 mm mm).2.2) (z + (o + 1)) c s.1.1.2.1) (va_up ow s.1.1.2.1 (16 * o + c + 1)) := by
        refine ⟨hes.1, hes.2.1, fun b hb => ?_⟩
        have r := hes.2.2 b hb
        refine ⟨r.1, r.2.1, r.2.2.1, r.2.2.2.1, fun hX => ?_⟩
        have r2 := r.2.2.2.2 hX
        refine ⟨?_, r2.2.1, r2.2.2.1, ?_⟩
        · show va_up (push s 0 mm mm).2.1 s.1.1.2.1 _ b = _
          rw [va_up_n (by omega)]
          exact r2.1
        · show up2 (push s 0 mm mm).2.2.2.2 (z + (o + 1)) c _ b = _
          rw [up2_n (fun e => hX (Or.inr (Or.inl e)))]
          exact r2.2.2.2
      have hK2 := KS.es hK hes2
      have hw2 := OWS.es hw hK hes2
      have ht2 : TB (push s 0 mm mm).1 (wQ (va_up (push s 0 mm mm).2.1 s.1.1.2.1 (fun k => if k < min (L c) mm then s.2.1 a k else 0), (push s 0 mm mm).2.2) (z + (o + 1)) c s.1.1.2.1) z (va_up ow s.1.1.2.1 (16 * o + c + 1)) o nc S V (va_up L c mm) := by
        refine ⟨?_, fun j hj9 => ?_⟩
        · show va_up (va_up s.2.1 s.1.1.2.1 (fun _ => 0)) s.1.1.2.1 _ (z + o) 1 = nI S
          rw [va_up_n (by omega), va_up_n (by omega)]
          exact hS
        · by_cases e : j = c
          · subst e
            refine ⟨s.1.1.2.1, ?_, va_up_s, hN1.1, ?_, ?_, ?_, fun i hi => ?_⟩
            · show up2 _ (z + (o + 1)) j (some s.1.1.2.1) (z + (o + 1)) j = _
              rw [up2_s]
              exact va_up_s
            · rw [hN1.2, va_up_s]
            · rw [va_up_s]
              omega
            · rw [va_up_s]
              exact hm1
            · show va_up (push s 0 mm mm).2.1 s.1.1.2.1 _ s.1.1.2.1 i = _
              rw [va_up_s, if_pos (by omega)]
              exact hV i hi
          · obtain ⟨b, hb, hwb, hAb, hLb2, hSb, hLb3, hVb⟩ := ht9 j hj9
            have hbl : b < s.1.1.2.1 := hAb.2.1
            have hp := push_A (s := s) (t := 0) (n := mm) (m := mm) ⟨hAb, hLb2⟩
            rw [va_up_n e]
            refine ⟨b, ?_, ?_, hp.1, hp.2, hSb, hLb3, fun i hi => ?_⟩
            · show up2 (va_up s.2.2.2.2 s.1.1.2.1 (fun _ => none)) (z + (o + 1)) c (some s.1.1.2.1) (z + (o + 1)) j = _
              rw [up2_s, va_up_n e, va_up_n (by omega)]
              exact hb
            · rw [va_up_n (by omega)]
              exact hwb
            · show va_up (va_up s.2.1 s.1.1.2.1 (fun _ => 0)) s.1.1.2.1 _ b i = _
              rw [va_up_n (by omega), va_up_n (by omega)]
              exact hVb i hi
      refine rn_mono (widen_loop hk hrow m (c + 1) fu _ (va_up ow s.1.1.2.1 (16 * o + c + 1)) (va_up L c mm) (by omega) (by omega) hK2 hw2 ht2 (fun j hj9 => ?_)) (fun s' hs => ?_)
      · by_cases e : j = c
        · rw [e, va_up_s]
          omega
        · rw [va_up_n e]
          exact hj j (by omega)
      · obtain ⟨ow', L', h1, h2, h3, h4, h5⟩ := hs
        have hsm := smN_up (f := L) (c := c) (v := mm) nc hcn
        refine ⟨ow', L', hes2.tr h1 (fun b hb hX => ?_), h2, fun j hj9 => ?_, ?_, ?_⟩
        · have r : va_up ow s.1.1.2.1 (16 * o + c + 1) b = ow b := va_up_n (by omega)
          rcases hX with hX | hX | hX
          · exact Or.inl hX
          · exact Or.inr (Or.inl hX)
          · rw [r] at hX
            exact Or.inr (Or.inr hX)
        · have r := h3 j hj9
          by_cases e : j = c
          · subst e
            rw [va_up_s] at r
            omega
          · rw [va_up_n e] at r
            exact r
        · have r : (push s 0 mm mm).1.1.2.2 = s.1.1.2.2 + mm := rfl
          rw [r] at h4
          omega
        · have r : (push s 0 mm mm).1.1.2.1 = s.1.1.2.1 + 1 := rfl
          rw [r] at h5
          omega
