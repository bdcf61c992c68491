/-! a ROUND of (B): nearest first; pure, and the reference's -/
def bgn (R : Nat → Int32) (t k : Nat) : Nat := if k = 0 then eA R t else eB R t
def nrC (R : Nat → Int32) (D : Nat → Nat) (c t k n : Nat) : Prop := t < nn R 1 ∧ 0 < D t ∧ (k = 0 ∨ (k = 1 ∧ R (16 + 9 * t + 5) = 0)) ∧ dst R c (bgn R t k) n
def nrB (R : Nat → Int32) (D : Nat → Nat) (c t k : Nat) : Prop := ∃ n, nrC R D c t k n ∧ ∀ t' k' n', nrC R D c t' k' n' → n < n' ∨ (n = n' ∧ (t < t' ∨ (t = t' ∧ k ≤ k')))
noncomputable def nrX (R : Nat → Int32) (D : Nat → Nat) (c : Nat) : Nat × Nat := Classical.epsilon (fun q : Nat × Nat => nrB R D c q.1 q.2)
noncomputable def emL (R : Nat → Int32) (b : Nat) : Nat → Nat → List (Nat × Nat × Nat)
  | 0, _ => []
  | k + 1, u => if u = b then [] else ((nxt R b u).1, u, 0) :: emL R b k (nxt R b u).2
noncomputable def nrE (R : Nat → Int32) (c : Nat) (l : List (Nat × Nat × Nat)) : Int32 × List (Nat × Nat × Nat) :=
  @ite _ (∃ n, dst R c 0 n) (Classical.propDecidable _) (if (l ++ emL R 0 60 c).length ≤ 2000 then (0, l ++ emL R 0 60 c) else (-3, [])) (-8, [])
noncomputable def nrL (R : Nat → Int32) (D : Nat → Nat) (c : Nat) (l : List (Nat × Nat × Nat)) : List (Nat × Nat × Nat) := l ++ emL R (bgn R (nrX R D c).1 (nrX R D c).2) 60 c ++ [((nrX R D c).1, bgn R (nrX R D c).1 (nrX R D c).2, 1)]
noncomputable def nrF (R : Nat → Int32) : Nat → (Nat → Nat) → Nat → List (Nat × Nat × Nat) → Int32 × List (Nat × Nat × Nat)
  | 0, _, c, l => nrE R c l
  | m + 1, D, c, l => @ite _ (∃ t k, nrB R D c t k) (Classical.propDecidable _) (if (nrL R D c l).length ≤ 2000 then nrF R m (dec1 D (nrX R D c).1) (oth R (nrX R D c).1 (bgn R (nrX R D c).1 (nrX R D c).2)) (nrL R D c l) else (-3, [])) (-8, [])
/-- the best of those seen so far -/
def NRI (R : Nat → Int32) (D : Nat → Nat) (c F : Nat) (sn : Nat → Nat → Prop) (l3 : Int32) (w : Option (Nat × Nat)) : Prop := (w = none ∧ l3 = nI F ∧ ∀ t k n, sn t k → ¬ nrC R D c t k n) ∨ ∃ t k n, w = some (t, k) ∧ l3 = nI n ∧ n < 2 ^ 28 ∧ sn t k ∧ nrC R D c t k n ∧ ∀ t' k' n', sn t' k' → nrC R D c t' k' n' → n < n' ∨ (n = n' ∧ (t < t' ∨ (t = t' ∧ k ≤ k')))
section NR
variable {sh : Sh} {d d0 d' : Dt} {z : Nat} {R K : Nat → Int32} {u : Bool} {N n m k i c p q x F t b v : Nat} {D D' : Nat → Nat} {l : List (Nat × Nat × Nat)} {sn sn' : Nat → Nat → Prop} {l3 x3 : Int32} {w : Option (Nat × Nat)}
theorem nrC_fun {n' : Nat} (h : nrC R D c t k n) (h' : nrC R D c t k n') : n = n' := dst_fun h.2.2.2 h'.2.2.2
theorem nrB_fun {t' k' : Nat} (h1 : nrB R D c t k) (h2 : nrB R D c t' k') : t = t' ∧ k = k' := by
  obtain ⟨n, a1, a2⟩ := h1
  obtain ⟨n', b1, b2⟩ := h2
  have p1 := a2 _ _ _ b1
  have p2 := b2 _ _ _ a1
  omega
theorem nrX_eq (h : nrB R D c t k) : nrX R D c = (t, k) := by
  have h1 := Classical.epsilon_spec (p := fun q : Nat × Nat => nrB R D c q.1 q.2) ⟨(t, k), h⟩
  have h2 := nrB_fun h1 h
  exact Prod.ext h2.1 h2.2
theorem NRI.cg (h : NRI R D c F sn l3 w) (e : ∀ t k n, nrC R D c t k n → (sn t k ↔ sn' t k)) : NRI R D c F sn' l3 w := by
  rcases h with ⟨h1, h2, h3⟩ | ⟨t, k, n, h1, h2, h3, h4, h5, h6⟩
  · exact Or.inl ⟨h1, h2, fun t k n hs hc => h3 t k n ((e t k n hc).mpr hs) hc⟩
  · exact Or.inr ⟨t, k, n, h1, h2, h3, (e t k n h5).mp h4, h5, fun t' k' n' hs hc => h6 t' k' n' ((e t' k' n' hc).mpr hs) hc⟩
/-- one more is looked at -/
theorem NRI.step (hF : 2 ^ 28 ≤ F) (hF2 : F < 2 ^ 31) (h : NRI R D c F sn l3 w) (hx : dOK R F c (bgn R t k) x3) (ht : t < nn R 1) (hD : 0 < D t) (hk : k = 0 ∨ (k = 1 ∧ R (16 + 9 * t + 5) = 0)) (hb : ∀ t' k', sn t' k' → t' < t ∨ (t' = t ∧ k' < k)) : (l3 ≤ x3 → NRI R D c F (fun a e => sn a e ∨ (a = t ∧ e = k)) l3 w) ∧ (¬ l3 ≤ x3 → NRI R D c F (fun a e => sn a e ∨ (a = t ∧ e = k)) x3 (some (t, k))) := by
  rcases hx with ⟨n0, d1, d2, d3⟩ | ⟨d1, d3⟩
  · have hc : nrC R D c t k n0 := ⟨ht, hD, hk, d1⟩
    refine ⟨fun hle => ?_, fun hle => ?_⟩
    · rcases h with ⟨h1, h2, h3⟩ | ⟨t1, k1, n1, h1, h2, h3, h4, h5, h6⟩
      · rw [h2, d3] at hle
        have := (nI_leI (by omega) (by omega)).mp hle
        omega
      · rw [h2, d3] at hle
        have hle := (nI_leI (by omega) (by omega)).mp hle
        refine Or.inr ⟨t1, k1, n1, h1, h2, h3, Or.inl h4, h5, fun t' k' n' hs hc' => ?_⟩
        rcases hs with hs | ⟨rfl, rfl⟩
        · exact h6 t' k' n' hs hc'
        · have e := nrC_fun hc hc'
          have := hb t1 k1 h4
          omega
    · refine Or.inr ⟨t, k, n0, rfl, d3, d2, Or.inr ⟨rfl, rfl⟩, hc, fun t' k' n' hs hc' => ?_⟩
      rcases hs with hs | ⟨rfl, rfl⟩
      · rcases h with ⟨h1, h2, h3⟩ | ⟨t1, k1, n1, h1, h2, h3, h4, h5, h6⟩
        · exact absurd hc' (h3 t' k' n' hs)
        · rw [h2, d3] at hle
          have hlt : n0 < n1 := Nat.lt_of_not_le (fun q => hle (nI_le q (by omega)))
          have := h6 t' k' n' hs hc'
          omega
      · have e := nrC_fun hc hc'
        omega
  · have no : ∀ n, ¬ nrC R D c t k n := fun n hc => by
      obtain ⟨p, hp, -⟩ := hc.2.2.2.1
      exact d1 p hp
    refine ⟨fun _ => h.cg (fun t' k' n hc => ⟨Or.inl, fun hs => ?_⟩), fun hle => absurd ?_ hle⟩
    · rcases hs with hs | ⟨rfl, rfl⟩
      · exact hs
      · exact absurd hc (no n)
    · rw [d3]
      rcases h with ⟨h1, h2, h3⟩ | ⟨t1, k1, n1, h1, h2, h3, h4, h5, h6⟩
      · rw [h2]
        exact Int32.le_refl _
      · rw [h2]
        exact nI_le (by omega) hF2
theorem NRI.fin (h : NRI R D c F sn l3 w) (hs : ∀ t k n, nrC R D c t k n → sn t k) : (w = none ∧ ¬ ∃ t k, nrB R D c t k) ∨ (w = some (nrX R D c) ∧ (∃ t k, nrB R D c t k) ∧ nrB R D c (nrX R D c).1 (nrX R D c).2) := by
  rcases h with ⟨h1, h2, h3⟩ | ⟨t, k, n, h1, h2, h3, h4, h5, h6⟩
  · refine Or.inl ⟨h1, fun ⟨t, k, n, hc, _⟩ => h3 t k n (hs _ _ _ hc) hc⟩
  · have hb : nrB R D c t k := ⟨n, h5, fun t' k' n' hc => h6 t' k' n' (hs _ _ _ hc) hc⟩
    have e := nrX_eq hb
    refine Or.inr ⟨by rw [e]; exact h1, ⟨t, k, hb⟩, ?_⟩
    rw [e]
    exact hb
theorem emL_len : ∀ (k u : Nat), (emL R b k u).length ≤ k
  | 0, _ => Nat.le_refl 0
  | k + 1, u => by
    by_cases h : u = b
    · rw [show emL R b (k + 1) u = [] from if_pos h]
      exact Nat.zero_le _
    · rw [show emL R b (k + 1) u = _ from if_neg h]
      exact Nat.succ_le_succ (emL_len k _)
/-! the reference -/
theorem DF.tr {d1 d2 : Dt} (h1 : DF z d d1) (h2 : DF z d1 d2) : DF z d d2 := ⟨h2.1.trans h1.1, fun a q1 q2 q3 q4 => (h2.2.1 a q1 q2 q3 q4).trans (h1.2.1 a q1 q2 q3 q4), fun k q => (h2.2.2 k q).trans (h1.2.2 k q)⟩
theorem DF.rf : DF z d d := ⟨rfl, fun _ _ _ _ _ => rfl, fun _ _ => rfl⟩
theorem DF.rc (h : DF z d d') (hR : RCx d z R) : RCx d' z R := by
  unfold RCx
  rw [h.2.1 (z + 243) (by omega) (by omega) (by omega) (by omega), h.2.1 (z + 247) (by omega) (by omega) (by omega) (by omega)]
  exact hR
theorem dE_loop (hN1 : 151 ≤ N) (hK : KS sh z) (hN : WN R) (hW : WS R) (hb : b < nn R 0) : ∀ (k a fu : Nat) (d : Dt) (l : List (Nat × Nat × Nat)), rk R b k a → a < nn R 0 → k < fu → RCx d z R → DRl z d l → l.length + k < 2 ^ 30 → Rn (f_X12_drivesEmpty_2 N sh fu (z + 242) (nI b) (nI a) d) (fun r => r.1 = nI b ∧ DF z d r.2 ∧ DRl z r.2 (l ++ emL R b k a))
  | k, a, fu, d, l, hr, ha, hf, hR, hD, hl => by
    obtain ⟨fu, rfl⟩ : ∃ q, fu = q + 1 := ⟨fu - 1, by omega⟩
    have n0 := hN.1.2
    have n1 := hN.2.1.2
    show Rn (g_X12_drivesEmpty_2 N sh (f_X12_drivesEmpty_2 N sh fu) (z + 242) (nI b) (nI a) d) _
    unfold g_X12_drivesEmpty_2 f_X12_drivesEmpty_34
    by_cases e : a = b
    · refine rn_t (by rw [e]) ?_
      have em : emL R b k a = [] := by
        cases k with
        | zero => rfl
        | succ k => exact if_pos e
      rw [em, List.append_nil, e]
      exact rn_some ⟨rfl, DF.rf, hD⟩
    · refine rn_f (fun q => e (nI_inj q (by omega) (by omega))) ?_
      cases k with
      | zero => exact absurd hr e
      | succ k =>
        rcases hr with hr | ⟨⟨n, hd⟩, hx, hr⟩
        · exact absurd hr e
        have st := hx.1
        have hs := st.2.1.1
        have ld := nxt_leads hW hN ha hx
        refine rn_eq (m_onTo hN1 hK hN hW hR.1 hR.2 ha hb hd e) ?_
        refine rn_bind (m_drive hK (by omega) hD) (fun d2 h2 => ?_)
        refine rn_eq (m_leads hK (h2.1.rc hR).1 (by omega)) ?_
        rw [ld]
        refine rn_mono (dE_loop hN1 hK hN hW hb k _ fu d2 _ hr st.1 (by omega) (h2.1.rc hR) h2.2 (by simp; omega)) (fun r h3 => ?_)
        refine ⟨h3.1, h2.1.tr h3.2.1, ?_⟩
        have em : emL R b (k + 1) a = ((nxt R b a).1, a, 0) :: emL R b k (nxt R b a).2 := if_neg e
        have h4 := h3.2.2
        rw [List.append_assoc] at h4
        rw [em]
        exact h4
theorem m_drivesEmpty {a : Nat} (hN1 : 151 ≤ N) (hK : KS sh z) (hN : WN R) (hW : WS R) (hb : b < nn R 0) (ha : a < nn R 0) (hd : dst R a b n) (hR : RCx d z R) (hD : DRl z d l) (hl : l.length ≤ 100000) : Rn (f_X12_drivesEmpty N sh (z + 242) (nI a) (nI b) d) (fun r => r.1 = nI b ∧ DF z d r.2 ∧ DRl z r.2 (l ++ emL R b 60 a)) := by
  unfold f_X12_drivesEmpty
  refine rn_t (ks_o hK 242 12 rfl) ?_
  exact dE_loop hN1 hK hN hW hb 60 a N d l (rk_60 hW hN hd) ha (by omega) hR hD (by omega)
theorem m_must (hK : KS sh z) (hW : WS R) (hN : WN R) (hA : AG (d.1 (z + 243)) R) (ht : t < nn R 1) : f_X12_must N sh (z + 242) (nI t) d = some (if 0 < T0 R t then 1 else 0) := by
  have n1 := hN.2.1.2
  obtain ⟨-, -, -, -, e3, b3⟩ := hW t ht
  refine rn_val ?_
  unfold f_X12_must f_X12_must_27 f_X12_must_28
  refine rn_t (ks_o hK 242 12 rfl) ?_
  refine rn_eq (m_isOpen hK hA (by omega)) ?_
  unfold T0
  by_cases h : R (16 + 9 * t + 4) = 0
  · rw [if_pos h, if_pos h]
    refine rn_f (by decide) ?_
    refine rds hK hA 3 (by omega) (by decide) rfl ?_
    rw [e3]
    by_cases h2 : 0 < nn R (16 + 9 * t + 3)
    · rw [if_pos h2]
      exact rn_f (nI_ge (b := nn R (16 + 9 * t + 3)) (a := 0) h2 (by omega)) ⟨1, rfl, rfl⟩
    · rw [if_neg h2]
      exact rn_t (nI_le (b := 0) (by omega) (by omega)) ⟨0, rfl, rfl⟩
  · rw [if_neg h, if_neg h]
    exact rn_t rfl ⟨0, rfl, rfl⟩
end NR
