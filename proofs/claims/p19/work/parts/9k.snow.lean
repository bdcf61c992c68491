/-! snow(): what falls, and the reference -/
abbrev tl (R : Nat → Int32) (hh g : Nat) : Prop := R (1366 + 3 * g + 2) ≠ -1 ∧ hh < nn R (1366 + 3 * g + 2) ∧ R (5426 + 200 * g + hh) = 0
def jt (R : Nat → Int32) (x a b : Int32) (t : Nat) : Prop := R (16 + 9 * t + 4) = 0 ∧ ((R (16 + 9 * t + 7) = x ∧ (R (16 + 9 * t + 8) = a ∨ R (16 + 9 * t + 8) = b)) ∨ (R (16 + 9 * t + 8) = x ∧ (R (16 + 9 * t + 7) = a ∨ R (16 + 9 * t + 7) = b)))
def jn (R : Nat → Int32) (x a b : Int32) : Prop := ∃ t, t < nn R 1 ∧ jt R x a b t
noncomputable def kn (R : Nat → Int32) (g t : Nat) : Nat := if R (1366 + 3 * g) = R (16 + 9 * t + 7) ∨ R (1366 + 3 * g) = R (16 + 9 * t + 8) then 2 else @ite _ (jn R (R (1366 + 3 * g)) (R (16 + 9 * t + 7)) (R (16 + 9 * t + 8))) (Classical.propDecidable _) 1 0
def wt (n : Nat) : UInt32 := FP.i2f (nI n)
noncomputable def snA (R : Nat → Int32) (hh t : Nat) : Nat → UInt32 × Nat
  | 0 => (FP.fconst0, 0)
  | g + 1 => if tl R hh g then (if kn R g t = 0 then snA R hh t g else (FP.fadd (snA R hh t g).1 (FP.fmul (gx R g hh) (wt (kn R g t))), (snA R hh t g).2 + kn R g t)) else snA R hh t g
noncomputable def snD (R : Nat → Int32) (hh t : Nat) : Int32 := cap (R (16 + 9 * t + 0) + cap (FP.f2i (FP.fmul (FP.fdiv (snA R hh t (nn R 2)).1 (wt (snA R hh t (nn R 2)).2)) 1092616192)))
noncomputable def snF (R : Nat → Int32) (hh : Nat) : Nat → Nat → Int32
  | 0 => R
  | t + 1 => if (snA R hh t (nn R 2)).2 = 0 then va_up (snF R hh t) (16 + 9 * t + 1) 1 else va_up (va_up (snF R hh t) (16 + 9 * t + 1) 0) (16 + 9 * t + 0) (snD R hh t)
noncomputable def snC (R : Nat → Int32) (hh : Nat) : Nat → Nat
  | 0 => 0
  | t + 1 => snC R hh t + if (snA R hh t (nn R 2)).2 = 0 then 0 else 1
noncomputable def sp_snow (R : Nat → Int32) (x : Int32) : Int32 × Option (Nat → Int32) := if x < 0 ∨ 199 < x then (-2, none) else (nI (snC R x.toNatClampNeg (nn R 1)), some (snF R x.toNatClampNeg (nn R 1)))
section SNW
variable {s s' : AS} {sh : Sh} {d d' d0 : Dt} {z : Nat} {ow ow' : Nat → Nat} {R R' Rc K : Nat → Int32} {u : Bool} {y : YL} {c N g t hh : Nat} {q q' : BL}
theorem kn_le : kn R g t ≤ 2 := by
  unfold kn
  split
  · exact Nat.le_refl 2
  · split
    · decide
    · decide
theorem snA_n : ∀ g, (snA R hh t g).2 ≤ 2 * g
  | 0 => Nat.le_refl 0
  | g + 1 => by
    have ih := snA_n g
    have k2 := kn_le (R := R) (g := g) (t := t)
    show (if tl R hh g then (if kn R g t = 0 then snA R hh t g else (FP.fadd (snA R hh t g).1 (FP.fmul (gx R g hh) (wt (kn R g t))), (snA R hh t g).2 + kn R g t)) else snA R hh t g).2 ≤ 2 * (g + 1)
    split
    · split
      · omega
      · show (snA R hh t g).2 + kn R g t ≤ 2 * (g + 1)
        omega
    · omega
theorem wt_bm {n : Nat} (h : n = 1 ∨ n = 2) : bm (wt n) 129 := by
  rcases h with rfl | rfl
  · show (FP.i2f (nI 1)).toNat % 2 ^ 31 < 129 * 2 ^ 23
    decide +kernel
  · show (FP.i2f (nI 2)).toNat % 2 ^ 31 < 129 * 2 ^ 23
    decide +kernel
theorem xk_bm {n : Nat} (h : n = 1 ∨ n = 2) : bm (FP.fmul (gx R g hh) (wt n)) 161 := FP.Core.fmul_mag (Ka := 158) (Kb := 129) gx_bm (wt_bm h) (by decide) (by decide)
theorem snA_bm : ∀ g, g ≤ 20 → bm (snA R hh t g).1 (161 + 2 * g)
  | 0, _ => by
    show (0 : Nat) % 2 ^ 31 < _
    decide
  | g + 1, hg => by
    have ih := snA_bm g (by omega)
    have k2 := kn_le (R := R) (g := g) (t := t)
    show bm (if tl R hh g then (if kn R g t = 0 then snA R hh t g else (FP.fadd (snA R hh t g).1 (FP.fmul (gx R g hh) (wt (kn R g t))), (snA R hh t g).2 + kn R g t)) else snA R hh t g).1 (161 + 2 * (g + 1))
    split
    · split
      · exact bm_mono ih (by omega)
      · exact FP.Core.fadd_mag (K := 161 + 2 * g) ih (bm_mono (xk_bm (by omega)) (by omega)) (by omega)
    · exact bm_mono ih (by omega)
theorem wt_0 : wt 0 = FP.fconst0 := by decide +kernel
theorem wt_add {n k : Nat} (hn : n ≤ 40) (hk : k = 1 ∨ k = 2) : FP.fadd (wt n) (wt k) = wt (n + k) := by
  have h := List.all_eq_true.mp (show (List.range 41).all (fun n => (FP.fadd (wt n) (wt 1) == wt (n + 1)) && (FP.fadd (wt n) (wt 2) == wt (n + 2))) = true by decide +kernel) n (List.mem_range.mpr (by omega))
  rw [Bool.and_eq_true] at h
  rcases hk with rfl | rfl
  · exact eq_of_beq h.1
  · exact eq_of_beq h.2
theorem wt_cmp {n : Nat} (hn : n ≤ 40) : ((Op.cmpValue (FP.fcmp (wt n) FP.fconst0) .l) ≤ 0) ↔ n = 0 := by
  have h := List.all_eq_true.mp (show (List.range 41).all (fun n => decide (((Op.cmpValue (FP.fcmp (wt n) FP.fconst0) .l) ≤ 0) ↔ n = 0)) = true by decide +kernel) n (List.mem_range.mpr (by omega))
  exact of_decide_eq_true h
theorem wt_lo {n : Nat} (hn : n ≤ 40) (h0 : n ≠ 0) : 127 * 2 ^ 23 ≤ (wt n).toNat % 2 ^ 31 ∧ bm (wt n) 255 := by
  have h := List.all_eq_true.mp (show (List.range 41).all (fun n => decide (n ≠ 0 → 127 * 2 ^ 23 ≤ (wt n).toNat % 2 ^ 31 ∧ (wt n).toNat % 2 ^ 31 < 255 * 2 ^ 23)) = true by decide +kernel) n (List.mem_range.mpr (by omega))
  exact of_decide_eq_true h h0
theorem wt_some {n : Nat} (hn : n ≤ 42) : o_n32 (wt n) = some (wt n) := bm_some (bm_i2f _) (by decide)
theorem sw_bm {a : UInt32} {n : Nat} (h1 : bm a 201) (hn : n ≤ 40) (h0 : n ≠ 0) : bm (FP.fdiv a (wt n)) 202 := FP.Core.fdiv_mag (K := 201) (L := 127) h1 (wt_lo hn h0).1 (wt_lo hn h0).2 (by decide) (by decide)
/-- another R with the same map, the same gauges -/
def smp (R R' : Nat → Int32) : Prop := ∀ j, (∀ t, t < 150 → j ≠ 16 + 9 * t ∧ j ≠ 16 + 9 * t + 1) → R' j = R j
theorem smp.cn (h : smp R R') {j : Nat} (hj : ∀ t, t < 150 → j ≠ 16 + 9 * t ∧ j ≠ 16 + 9 * t + 1) : nn R' j = nn R j := by
  unfold nn
  rw [h j hj]
theorem smp.st (h : smp R R') {t k : Nat} (h2 : 2 ≤ k) (h9 : k < 9) : R' (16 + 9 * t + k) = R (16 + 9 * t + k) := h _ (fun t' _ => by omega)
theorem snF_out {j : Nat} (hj : ∀ t, t < 150 → j ≠ 16 + 9 * t ∧ j ≠ 16 + 9 * t + 1) : ∀ t, t ≤ 150 → snF R hh t j = R j
  | 0, _ => rfl
  | t + 1, ht => by
    have h := hj t (by omega)
    show (if (snA R hh t (nn R 2)).2 = 0 then va_up (snF R hh t) (16 + 9 * t + 1) 1 else va_up (va_up (snF R hh t) (16 + 9 * t + 1) 0) (16 + 9 * t) (snD R hh t)) j = R j
    split
    · rw [va_up_n h.2]
      exact snF_out hj t (by omega)
    · rw [va_up_n h.1, va_up_n h.2]
      exact snF_out hj t (by omega)
theorem snF_smp (ht : t ≤ 150) : smp R (snF R hh t) := fun j hj => snF_out hj t ht
theorem snF_hi {j : Nat} : ∀ t, 16 + 9 * t ≤ j → snF R hh t j = R j
  | 0, _ => rfl
  | t + 1, h => by
    show (if (snA R hh t (nn R 2)).2 = 0 then va_up (snF R hh t) (16 + 9 * t + 1) 1 else va_up (va_up (snF R hh t) (16 + 9 * t + 1) 0) (16 + 9 * t + 0) (snD R hh t)) j = R j
    split
    · rw [va_up_n (by omega)]
      exact snF_hi t (by omega)
    · rw [va_up_n (by omega), va_up_n (by omega)]
      exact snF_hi t (by omega)
theorem snF_wn (hN : WN R) (ht : t ≤ 150) : WN (snF R hh t) := by
  have e : ∀ j, j < 5 → snF R hh t j = R j := fun j hj => snF_out (fun t _ => by omega) t ht
  have en : ∀ j, j < 5 → nn (snF R hh t) j = nn R j := fun j hj => by unfold nn; rw [e j hj]
  unfold WN
  rw [e 0 (by omega), e 1 (by omega), e 2 (by omega), e 3 (by omega), e 4 (by omega), en 0 (by omega), en 1 (by omega), en 2 (by omega), en 3 (by omega), en 4 (by omega)]
  exact hN
theorem near_loop9 {x a b : Int32} (hK : KS sh z) (hN : WN R) (hA : AG (d.1 (z + 243)) R) : ∀ (m i fu : Nat) (v : Int32), i + m = nn R 1 → m < fu → ((v = 0 ∧ ∀ t, t < i → ¬ jt R x a b t) ∨ (v = 1 ∧ jn R x a b)) → Rn (f_X12_near_48 N sh d fu (z + 242) x a b v (nI i)) (fun r => (r = 0 ∧ ¬ jn R x a b) ∨ (r = 1 ∧ jn R x a b))
  | 0, i, fu, v, hi, hf, hv => by
    obtain ⟨fu, rfl⟩ : ∃ q, fu = q + 1 := ⟨fu - 1, by omega⟩
    show Rn (g_X12_near_48 N sh (f_X12_near_48 N sh d fu) (z + 242) x a b v (nI i) d) _
    have n1 := hN.2.1
    unfold g_X12_near_48 f_X12_near_204 f_X12_near_214
    refine rdg hK hA 1 rfl (by decide) ?_
    rw [n1.1]
    refine rn_t (nI_le (by omega) (by omega)) ?_
    rcases hv with ⟨rfl, h⟩ | ⟨rfl, h⟩
    · exact rn_t rfl (rn_some (Or.inl ⟨rfl, fun ⟨t, h1, h2⟩ => h t (by omega) h2⟩))
    · exact rn_f (by decide) (rn_some (Or.inr ⟨rfl, h⟩))
  | m + 1, i, fu, v, hi, hf, hv => by
    obtain ⟨fu, rfl⟩ : ∃ q, fu = q + 1 := ⟨fu - 1, by omega⟩
    have ih := near_loop9 (x := x) (a := a) (b := b) hK hN hA m (i + 1) fu
    show Rn (g_X12_near_48 N sh (f_X12_near_48 N sh d fu) (z + 242) x a b v (nI i) d) _
    have n1 := hN.2.1
    unfold g_X12_near_48
    refine rdg hK hA 1 rfl (by decide) ?_
    rw [n1.1]
    refine rn_f (nI_ge (by omega) (by omega)) ?_
    rcases hv with ⟨rfl, h⟩ | ⟨rfl, h⟩
    · refine rn_f (fun q => q rfl) ?_
      have i150 : i < 150 := by omega
      have fin : ∀ l8 t0 : Int32, ((l8 ≠ 0 ∨ t0 ≠ 0) ↔ ((R (16 + 9 * i + 7) = x ∧ (R (16 + 9 * i + 8) = a ∨ R (16 + 9 * i + 8) = b)) ∨ (R (16 + 9 * i + 8) = x ∧ (R (16 + 9 * i + 7) = a ∨ R (16 + 9 * i + 7) = b)))) → Rn (f_X12_near_170 N sh (f_X12_near_48 N sh d fu) (z + 242) x a b (nI i) l8 t0 d) (fun r => (r = 0 ∧ ¬ jn R x a b) ∨ (r = 1 ∧ jn R x a b)) := fun l8 t0 hp => by
        unfold f_X12_near_170 f_X12_near_195 f_X12_near_191 f_X12_near_196
        rw [nI_1]
        have no : ¬ jt R x a b i → Rn (f_X12_near_48 N sh d fu (z + 242) x a b 0 (nI (i + 1))) (fun r => (r = 0 ∧ ¬ jn R x a b) ∨ (r = 1 ∧ jn R x a b)) := fun hj => ih 0 (by omega) (by omega) (Or.inl ⟨rfl, fun t ht => by
          by_cases e : t = i
          · rw [e]; exact hj
          · exact h t (by omega)⟩)
        have yes : jt R x a b i → Rn (f_X12_near_48 N sh d fu (z + 242) x a b 1 (nI (i + 1))) (fun r => (r = 0 ∧ ¬ jn R x a b) ∨ (r = 1 ∧ jn R x a b)) := fun hj => ih 1 (by omega) (by omega) (Or.inr ⟨rfl, i, by omega, hj⟩)
        refine rn_eq (m_isOpen hK hA i150) ?_
        by_cases ho : R (16 + 9 * i + 4) = 0
        · rw [if_pos ho]
          refine rn_f (by decide) ?_
          refine rn_ite (fun h1 => yes ⟨ho, hp.mp (Or.inl h1)⟩) (fun h1 => ?_)
          refine rn_ite (fun h2 => no (fun q => (hp.mpr q.2).elim (fun r => h1 r) (fun r => r h2))) (fun h2 => yes ⟨ho, hp.mp (Or.inr h2)⟩)
        · rw [if_neg ho]
          exact rn_t rfl (no (fun q => ho q.1))
      have mid : ∀ l8 : Int32, (l8 ≠ 0 ↔ (R (16 + 9 * i + 7) = x ∧ (R (16 + 9 * i + 8) = a ∨ R (16 + 9 * i + 8) = b))) → Rn (f_X12_near_120 N sh (f_X12_near_48 N sh d fu) (z + 242) x a b (nI i) ((16 : Int32) + (9 : Int32) * nI i) l8 d) (fun r => (r = 0 ∧ ¬ jn R x a b) ∨ (r = 1 ∧ jn R x a b)) := fun l8 h8 => by
        unfold f_X12_near_120 f_X12_near_169 f_X12_near_165
        refine rst hK hA 8 i150 (by decide) rfl ?_
        refine rn_ite (fun h1 => ?_) (fun h1 => ?_)
        · refine fin l8 0 ⟨fun q => q.elim (fun q => Or.inl (h8.mp q)) (fun q => absurd rfl q), fun q => q.elim (fun q => Or.inl (h8.mpr q)) (fun q => absurd q.1 h1)⟩
        have h1 := Decidable.of_not_not h1
        refine rst hK hA 7 i150 (by decide) rfl ?_
        refine rn_ite (fun h2 => ?_) (fun h2 => ?_)
        · exact fin l8 1 ⟨fun _ => Or.inr ⟨h1, Or.inl h2⟩, fun _ => Or.inr (by decide)⟩
        refine rst hK hA 7 i150 (by decide) rfl ?_
        refine rn_ite (fun h3 => ?_) (fun h3 => ?_)
        · exact fin l8 0 ⟨fun q => q.elim (fun q => Or.inl (h8.mp q)) (fun q => absurd rfl q), fun q => q.elim (fun q => Or.inl (h8.mpr q)) (fun q => q.2.elim (fun r => absurd r h2) (fun r => absurd r h3))⟩
        · exact fin l8 1 ⟨fun _ => Or.inr ⟨h1, Or.inr (Decidable.of_not_not h3)⟩, fun _ => Or.inr (by decide)⟩
      refine rn_eq (m_st hK) ?_
      unfold f_X12_near_119 f_X12_near_115
      refine rst hK hA 7 i150 (by decide) rfl ?_
      refine rn_ite (fun h1 => ?_) (fun h1 => ?_)
      · exact mid 0 ⟨fun q => absurd rfl q, fun q => absurd q.1 h1⟩
      have h1 := Decidable.of_not_not h1
      refine rst hK hA 8 i150 (by decide) rfl ?_
      refine rn_ite (fun h2 => ?_) (fun h2 => ?_)
      · exact mid 1 ⟨fun _ => ⟨h1, Or.inl h2⟩, fun _ => by decide⟩
      refine rst hK hA 8 i150 (by decide) rfl ?_
      refine rn_ite (fun h3 => ?_) (fun h3 => ?_)
      · exact mid 0 ⟨fun q => absurd rfl q, fun q => q.2.elim (fun r => absurd r h2) (fun r => absurd r h3)⟩
      · exact mid 1 ⟨fun _ => ⟨h1, Or.inr (Decidable.of_not_not h3)⟩, fun _ => by decide⟩
    · refine rn_t (by decide) ?_
      unfold f_X12_near_204 f_X12_near_214
      exact rn_f (by decide) (rn_some (Or.inr ⟨rfl, h⟩))
theorem m_near (hN1 : 200 ≤ N) (hK : KS sh z) (hN : WN R) (hA : AG (d.1 (z + 243)) R) (ht : t < 150) : f_X12_near N sh (z + 242) (R (1366 + 3 * g)) (nI t) d = some (nI (kn R g t)) := by
  have n1 := hN.2.1.2
  refine rn_val ?_
  unfold f_X12_near f_X12_near_40 kn
  refine rn_t (ks_o hK 242 12 rfl) ?_
  refine rds hK hA 7 ht (by decide) rfl ?_
  refine rds hK hA 8 ht (by decide) rfl ?_
  refine rn_ite (fun h1 => ?_) (fun h1 => ?_)
  · rw [if_pos (Or.inl h1)]
    exact rn_some rfl
  refine rn_ite (fun h2 => ?_) (fun h2 => ?_)
  · rw [if_neg (fun q => q.elim h1 h2)]
    refine rn_mono (near_loop9 hK hN hA (nn R 1) 0 N 0 (by omega) (by omega) (Or.inl ⟨rfl, fun t ht => absurd ht (Nat.not_lt_zero t)⟩)) (fun r hr => ?_)
    rcases hr with ⟨rfl, h⟩ | ⟨rfl, h⟩
    · rw [ite_n h]
      rfl
    · rw [ite_p h]
      rfl
  · rw [if_pos (Or.inr (Decidable.of_not_not h2))]
    exact rn_some rfl
theorem kn_smp (h : smp R R') : kn R' g t = kn R g t := by
  have e1 : R' (1366 + 3 * g) = R (1366 + 3 * g) := h _ (fun t' _ => by omega)
  have e7 : R' (16 + 9 * t + 7) = R (16 + 9 * t + 7) := h.st (by decide) (by decide)
  have e8 : R' (16 + 9 * t + 8) = R (16 + 9 * t + 8) := h.st (by decide) (by decide)
  have ej : ∀ x a b, jn R' x a b ↔ jn R x a b := fun x a b => by
    unfold jn jt
    rw [h.cn (j := 1) (fun t _ => by omega)]
    exact exists_congr (fun t => by rw [h.st (k := 4) (by decide) (by decide), h.st (k := 7) (by decide) (by decide), h.st (k := 8) (by decide) (by decide)])
  unfold kn
  rw [e1, e7, e8]
  by_cases hj : jn R (R (1366 + 3 * g)) (R (16 + 9 * t + 7)) (R (16 + 9 * t + 8))
  · rw [ite_p hj, ite_p ((ej _ _ _).mpr hj)]
  · rw [ite_n hj, ite_n (fun q => hj ((ej _ _ _).mp q))]
end SNW
