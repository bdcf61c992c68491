section BE
variable {sh : Sh} {d : Dt} {z : Nat} {ow : Nat → Nat} {o nc S : Nat} {V : Nat → Nat → Int32} {L : Nat → Nat} {N : Nat}
/-- another table is left, and so is what is new -/
theorem tb_es {s s' : AS} {X : Nat → Prop} {ow' : Nat → Nat} (h : TB s.1 s.2 z ow o nc S V L) (hK : KS s.1 z) (hk : tck o nc = true) (he : ES X s ow s' ow') (h0 : ¬ X (z + o)) (h1 : ¬ X (z + (o + 1))) (h2 : ∀ a, 1 ≤ ow a → (ow a - 1) / 16 = o → ¬ X a) : TB s'.1 s'.2 z ow' o nc S V L := by
  have hz := hK.2.1
  have hn := tck_n hk
  obtain ⟨hS, ht⟩ := h
  refine ⟨?_, fun c hc => ?_⟩
  · rw [((he.2.2 (z + o) (by omega)).2.2.2.2 h0).1]
    exact hS
  · obtain ⟨a, ha, hwa, hA, hL, hSL, hLb, hV⟩ := ht c hc
    have hlt : a < s.1.1.2.1 := hA.2.1
    have q := he.2.2 a hlt
    have hX : ¬ X a := h2 a (by omega) (by rw [hwa]; omega)
    have e1 := he.1
    have e2 := he.2.1
    refine ⟨a, ?_, by rw [q.2.2.2.1]; exact hwa, ⟨by rw [e1]; exact hA.1, by omega, by rw [q.1]; exact hA.2.2⟩, by rw [q.2.1]; exact hL, hSL, hLb, fun i hi => ?_⟩
    · rw [((he.2.2 (z + (o + 1)) (by omega)).2.2.2.2 h1).2.2.2]
      exact ha
    · rw [(q.2.2.2.2 hX).1]
      exact hV i hi
theorem tx_old {s s' : AS} {X : Nat → Prop} {ow' : Nat → Nat} {a : Nat} (he : ES X s ow s' ow') (ha : a < s.1.1.2.1) (h : TX z ow' o a) : TX z ow o a := by
  have q := (he.2.2 a ha).2.2.2.1
  rcases h with h | h | h
  · exact Or.inl h
  · exact Or.inr (Or.inl h)
  · rw [q] at h
    exact Or.inr (Or.inr h)
theorem tb_become {s : AS} {o2 S2 : Nat} {V2 : Nat → Nat → Int32} {L2 : Nat → Nat} (hN : 16 ≤ N) (hk : tck o nc = true) (hk2 : tck o2 nc = true) (hne : o + 1 < o2 ∨ o2 + 1 < o) (hS2 : S2 < 2 ^ 19) (hK : KS s.1 z) (hw : OWS ow z) (ht : TB s.1 s.2 z ow o nc S V L) (ht2 : TB s.1 s.2 z ow o2 nc S2 V2 L2) : Rn (f_X8_become N (z + o) (z + o2) s) (fun s' => ∃ ow' L', ES (TX z ow o) s ow s' ow' ∧ TB s'.1 s'.2 z ow' o nc S2 V2 L' ∧ (∀ j, j < nc → L j ≤ L' j ∧ L' j ≤ max (L j) (2 * S2)) ∧ s'.1.1.2.2 + 2 * smN L nc ≤ s.1.1.2.2 + 2 * smN L' nc ∧ s'.1.1.2.1 + smN L nc ≤ s.1.1.2.1 + smN L' nc) := by
  have hn := tck_n hk
  have ho := tck_o hk hw
  have ho2 := tck_o hk2 hw
  unfold f_X8_become
  refine rn_t (ks_o hK o 8 (tck_1 hk)) ?_
  refine r_gI hK (tck_1 hk2) ?_
  rw [ht2.1]
  refine rn_bind (tb_widen hN hk hS2 hK hw ht) (fun s1 hs => ?_)
  obtain ⟨ow1, L1, h1, h2, h3, h4, h5⟩ := hs
  have hK1 := KS.es hK h1
  have hw1 := OWS.es hw hK h1
  have ht21 : TB s1.1 s1.2 z ow1 o2 nc S2 V2 L2 := by
    refine tb_es ht2 hK hk2 h1 (fun q => ?_) (fun q => ?_) (fun a ha hb q => ?_)
    · rcases q with q | q | q <;> omega
    · rcases q with q | q | q <;> omega
    · rcases q with q | q | q
      · rw [q] at ha
        omega
      · rw [q] at ha
        omega
      · omega
  unfold f_X8_become_8
  refine rn_mono (become_loop hk hk2 hne hK1 hw1 (fun c hc => (h3 c hc).1) nc 0 N s1.2 (by omega) (by omega) h2.tr ht21 (fun j hj => absurd hj (Nat.not_lt_zero j))) (fun s' hr => ?_)
  obtain ⟨r2, r3, r4⟩ := hr
  have e : s' = (s1.1, s'.2) := Prod.ext r2 rfl
  rw [e]
  exact ⟨ow1, L1, h1.tr (FD.es (sh := s1.1) (ow := ow1) r4) (fun b hb hX => tx_old h1 hb hX), r3, fun j hj => (h3 j hj).2, h4, h5⟩
end BE
/-- Arrays.copyOf of longs, to another length -/
theorem copyOfJ_eq {N : Nat} {s : AS} {a l m : Nat} (ha : isA s.1 a 1 ∧ s.1.2.2.1 a = l) (hne : l ≠ m) (hl : l < 2 ^ 20) (hm : m < 2 ^ 20) : f_J7_copyOf_c38d5 N a (nI m) s = some (s.1.1.2.1, ((push s 1 m m).1, ((push s 1 m m).2.1, va_up (push s 1 m m).2.2.1 s.1.1.2.1 (fun k => if k < min l m then s.2.2.1 a k else 0), (push s 1 m m).2.2.2))) := by
  have hz : s.1.1.1 ≤ s.1.1.2.1 := by have := ha.1.1; have := ha.1.2.1; omega
  have hlt : a < s.1.1.2.1 := ha.1.2.1
  have hA := push_A (t := 1) (n := m) (m := m) ha
  have hB := push_N (s := s) (t := 1) (n := m) (m := m) hz
  refine rn_val ?_
  unfold f_J7_copyOf_c38d5
  refine rn_eq (q_len ha (by decide)) ?_
  refine rn_t (fun e => hne ((nI_eq (by omega) (by omega)).mp e).symm) ?_
  refine rn_eq (v := push s 1 m m) ?_ ?_
  · unfold nArr
    rw [nI_clamp (by omega), if_pos ⟨nI_pos (by omega), hm⟩]
  unfold f_J7_copyOf_c38d5_17
  refine rn_eq (q_len hA (by decide)) ?_
  rw [o_min_nI (by omega) (by omega)]
  refine rn_eq (v := ((push s 1 m m).2.1, va_up (push s 1 m m).2.2.1 s.1.1.2.1 (fun k => if k < min l m then s.2.2.1 a k else 0), (push s 1 m m).2.2.2)) ?_ (rn_some rfl)
  unfold cpy
  rw [if_pos hA.1.2.2]
  unfold cpJ
  rw [hA.2, hB.2]
  have e0 : (0 : Int32).toNatClampNeg = 0 := by decide
  rw [e0, nI_clamp (by omega), if_pos ⟨hA.1, hB.1, by decide, by decide, nI_pos (by omega), by omega, by omega⟩]
  have e1 : (push s 1 m m).2.2.1 a = s.2.2.1 a := va_up_n (by omega)
  have e2 : (push s 1 m m).2.2.1 s.1.1.2.1 = fun _ => 0 := va_up_s
  rw [e1, e2]
  congr 4
  funext k
  show (if 0 ≤ k ∧ k < 0 + min l m then s.2.2.1 a (0 + (k - 0)) else 0) = _
  by_cases h : k < min l m
  · rw [if_pos (by omega), if_pos h, Nat.sub_zero, Nat.zero_add]
  · rw [if_neg (by omega), if_neg h]
/-- the cells of readings of the books at z + b: room Lc, values W for k below n -/
def CE (sh : Sh) (d : Dt) (z : Nat) (ow : Nat → Nat) (b Lc : Nat) (P : Nat → Prop) (W : Nat → Int64) : Prop := ∃ a, d.2.2.2 (z + b) 7 = some a ∧ ow a = 16 * b + 1 ∧ isA sh a 1 ∧ sh.2.2.1 a = Lc ∧ Lc < 2 ^ 20 ∧ ∀ k, P k → k < Lc ∧ d.2.1 a k = W k
