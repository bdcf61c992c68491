/-! 68.meas2.lean.txt -/
section ME2
variable {β : Type} {Q : Dt → Prop} {sh : Sh} {d d0 d' : Dt} {z : Nat} {ow : Nat → Nat} {R : Nat → Int32} {N g : Nat} {L : Nat → Nat} {f : Nat → Nat} {S B : Int64} {k m : Nat}
theorem near_loop {rw : Nat} (hrow : isA sh rw 0 ∧ sh.2.2.1 rw = 60) (hf : ∀ a, a < 60 → d.1 rw a = nI (f a) ∧ f a ≤ 1000000000) (hB : ∀ j, bit B j = true → j < 60) : ∀ (p k fu m : Nat) (o : Int64), k + p = 60 → p < fu → bit B m = true → (∀ j, bit B j = true → bit o j = true ∨ f m ≤ f j) → (∀ j, bit o j = true → bit B j = true ∧ k < j) → Rn (f_X10_nearestOf_15 N sh d fu rw (nI m) o (nI k)) (fun r => ∃ m, r = nI m ∧ bit B m = true ∧ ∀ j, bit B j = true → f m ≤ f j)
  | 0, k, fu, m, o, hk, hfu, hm, h1, h2 => by
    obtain ⟨fu, rfl⟩ : ∃ q, fu = q + 1 := ⟨fu - 1, by omega⟩
    show Rn (g_X10_nearestOf_15 N sh (f_X10_nearestOf_15 N sh d fu) rw (nI m) o (nI k) d) _
    unfold g_X10_nearestOf_15
    refine rn_t ((nI_leI (a := 60) (by omega) (by omega)).mpr (by omega)) ?_
    refine rn_some ⟨m, rfl, hm, fun j hj => (h1 j hj).resolve_left (fun q => ?_)⟩
    have := h2 j q
    have := hB j hj
    omega
  | p + 1, k, fu, m, o, hk, hfu, hm, h1, h2 => by
    obtain ⟨fu, rfl⟩ : ∃ q, fu = q + 1 := ⟨fu - 1, by omega⟩
    have ih := near_loop hrow hf hB p (k + 1) fu
    show Rn (g_X10_nearestOf_15 N sh (f_X10_nearestOf_15 N sh d fu) rw (nI m) o (nI k) d) _
    unfold g_X10_nearestOf_15
    refine rn_f (nI_ge (b := 60) (by omega) (by decide)) ?_
    by_cases h0 : o = 0
    · refine rn_t (cmp0.mpr h0) ?_
      refine rn_some ⟨m, rfl, hm, fun j hj => (h1 j hj).resolve_left (fun q => ?_)⟩
      rw [h0, bit_0] at q
      cases q
    · refine rn_f (fun q => h0 (cmp0.mp q)) ?_
      obtain ⟨c, hc, c1, c2⟩ := bit_ex h0
      have hcB := h2 c c1
      have hc60 := hB c hcB.1
      have hm60 := hB m hm
      refine rn_eq (k_lowest c1 c2) ?_
      refine rn_eq (q_aT hrow c rfl hc60 (by decide)) ?_
      refine rn_eq (q_aT hrow m rfl hm60 (by decide)) ?_
      rw [(hf c hc60).1, (hf m hm60).1]
      have b1 := (hf c hc60).2
      have b2 := (hf m hm60).2
      have h2' : ∀ j, bit (o &&& (o - 1)) j = true → bit B j = true ∧ k + 1 < j := fun j q => by
        rw [bit_clr c1 c2, Bool.and_eq_true] at q
        have q1 := h2 j q.1
        have q2 : j ≠ c := fun e => by
          rw [e] at q
          simp at q
        have : ¬ j < c := fun r => by
          have := c2 j r
          rw [q.1] at this
          cases this
        exact ⟨q1.1, by omega⟩
      have hcl : ∀ j, bit o j = true → j ≠ c → bit (o &&& (o - 1)) j = true := fun j q1 q2 => by
        rw [bit_clr c1 c2, q1]
        simp [q2]
      unfold f_X10_nearestOf_58
      rw [nI_1]
      refine rn_ite (fun hle => ?_) (fun hle => ?_)
      · have hle := (nI_leI (by omega) (by omega)).mp hle
        refine ih m _ (by omega) (by omega) hm (fun j hj => ?_) h2'
        rcases h1 j hj with q | q
        · by_cases e : j = c
          · rw [e]
            exact Or.inr hle
          · exact Or.inl (hcl j q e)
        · exact Or.inr q
      · have hle : ¬ f m ≤ f c := fun q => hle ((nI_leI (by omega) (by omega)).mpr q)
        refine ih c _ (by omega) (by omega) hcB.1 (fun j hj => ?_) h2'
        rcases h1 j hj with q | q
        · by_cases e : j = c
          · rw [e]
            exact Or.inr (Nat.le_refl _)
          · exact Or.inl (hcl j q e)
        · exact Or.inr (by omega)
theorem k_nearestOf {rw : Nat} (hN : 100 ≤ N) (hrow : isA sh rw 0 ∧ sh.2.2.1 rw = 60) (hf : ∀ a, a < 60 → d.1 rw a = nI (f a) ∧ f a ≤ 1000000000) (hB : ∀ j, bit B j = true → j < 60) (h0 : B ≠ 0) : Rn (f_X10_nearestOf N sh rw B d) (fun r => ∃ m, r = nI m ∧ bit B m = true ∧ ∀ j, bit B j = true → f m ≤ f j) := by
  obtain ⟨c, hc, c1, c2⟩ := bit_ex h0
  unfold f_X10_nearestOf
  refine rn_eq (k_lowest c1 c2) ?_
  refine near_loop hrow hf hB 60 0 N c _ (by omega) (by omega) c1 (fun j hj => ?_) (fun j hj => ?_)
  · by_cases e : j = c
    · rw [e]
      exact Or.inr (Nat.le_refl _)
    · left
      rw [bit_clr c1 c2, hj]
      simp [e]
  · rw [bit_clr c1 c2, Bool.and_eq_true] at hj
    have q2 : j ≠ c := fun e => by
      rw [e] at hj
      simp at hj
    have : ¬ j < c := fun r => by
      have := c2 j r
      rw [hj.1] at this
      cases this
    exact ⟨hj.1, by omega⟩
/-- only the lengths to g are touched -/
def MGr (z g : Nat) (d d' : Dt) : Prop := d'.2 = d.2 ∧ ∀ a, a ≠ z + (141 + g) → d'.1 a = d.1 a
theorem MGr.rf : MGr z g d d := ⟨rfl, fun _ _ => rfl⟩
theorem MGr.tr {d1 d2 : Dt} (h1 : MGr z g d d1) (h2 : MGr z g d1 d2) : MGr z g d d2 := ⟨h2.1.trans h1.1, fun a q => (h2.2 a q).trans (h1.2 a q)⟩
theorem MGr.w {k : Nat} {v : Int32} : MGr z g d (wI d (z + (141 + g)) k v) := ⟨rfl, fun a q => wI_n q⟩
theorem MGr.wfr (h : MGr z g d d') (hg : g < 60) : WFR z d d' := ⟨by rw [h.1], fun a q => ⟨h.2 a (by omega), by rw [h.1]⟩⟩
theorem relax_loop {k27 : Nat → Nat → Int64 → Int64 → Int32 → Dt → Option Dt} {fr0 : Int64} {ml f0 : Nat → Nat} (hK : KS sh z) (hw : OWS ow z) (hN : WN R) (hW : WS R) (hg : g < 60) (hm : m < 60) (hmf : bit fr0 m = false) (hfr : ∀ a, bit fr0 a = true → a < 60 ∧ ∃ s, s < nn R 1 ∧ d0.1 (z + (79 + a)) m = nI s ∧ sln R s = ml a) (hf0 : ∀ a, a < 60 → f0 a ≤ 1000000000) (hfm : f0 m ≤ 600000) (hS : SPN d0 z) (hT : TB sh d0 z ow 4 9 (nn R 1) (vS R) L)
    (hk : ∀ (d' : Dt) (f' : Nat → Nat), MGr z g d0 d' → (∀ a, a < 60 → d'.1 (z + (141 + g)) a = nI (f' a)) → (∀ a, a < 60 → f' a = if bit fr0 a = true then min (f0 a) (f0 m + ml a) else f0 a) → Rn (k27 (z + 77) (z + (141 + g)) B S (nI k + 1) d') Q) :
    ∀ (p j fu : Nat) (d : Dt) (f : Nat → Nat) (fr : Int64), j + p = 60 → p < fu → MGr z g d0 d → (∀ a, a < 60 → d.1 (z + (141 + g)) a = nI (f a)) → (∀ a, a < 60 → f a = if bit fr0 a = true ∧ bit fr a = false then min (f0 a) (f0 m + ml a) else f0 a) → (∀ a, bit fr a = true → bit fr0 a = true ∧ j ≤ a) → Rn (f_X10_measure_87 N sh k27 fu (z + 77) (z + (141 + g)) B S (nI k) (nI m) fr (nI j) d) Q
  | 0, j, fu, d, f, fr, hj, hfu, hM, hrow, hf, hb => by
    obtain ⟨fu, rfl⟩ : ∃ q, fu = q + 1 := ⟨fu - 1, by omega⟩
    show Rn (g_X10_measure_87 N sh k27 (f_X10_measure_87 N sh k27 fu) (z + 77) (z + (141 + g)) B S (nI k) (nI m) fr (nI j) d) _
    unfold g_X10_measure_87
    refine rn_t ((nI_leI (a := 60) (by omega) (by omega)).mpr (by omega)) ?_
    refine hk d f hM hrow (fun a ha => ?_)
    have : bit fr a = false := bool_f (fun q => by have := hb a q; omega)
    rw [hf a ha, this]
    simp
  | p + 1, j, fu, d, f, fr, hj, hfu, hM, hrow, hf, hb => by
    obtain ⟨fu, rfl⟩ : ∃ q, fu = q + 1 := ⟨fu - 1, by omega⟩
    have ih := relax_loop hK hw hN hW hg hm hmf hfr hf0 hfm hS hT hk p (j + 1) fu
    show Rn (g_X10_measure_87 N sh k27 (f_X10_measure_87 N sh k27 fu) (z + 77) (z + (141 + g)) B S (nI k) (nI m) fr (nI j) d) _
    have n1 := hN.2.1.2
    unfold g_X10_measure_87
    refine rn_f (nI_ge (b := 60) (by omega) (by decide)) ?_
    by_cases h0 : fr = 0
    · refine rn_t (cmp0.mpr h0) ?_
      refine hk d f hM hrow (fun a ha => ?_)
      rw [hf a ha, h0, bit_0]
      simp
    · refine rn_f (fun q => h0 (cmp0.mp q)) ?_
      obtain ⟨c, hc, c1, c2⟩ := bit_ex h0
      have hcb := hb c c1
      obtain ⟨hc60, s, hs1, hs2, hs3⟩ := hfr c hcb.1
      have hSd := hS.wfr (hM.wfr hg)
      have hTd := tb_wfr hK hw (by decide) hT (hM.wfr hg) (by omega)
      have hR := ks_a hK (141 + g) 0 60 (ck_gap hg)
      refine rn_eq (k_lowest c1 c2) ?_
      refine rn_eq (q_aT hR c rfl hc60 (by decide)) ?_
      refine rn_eq (q_aT hR m rfl hm (by decide)) ?_
      refine r_gP hK 77 10 0 3 rfl (by decide) ?_
      refine r_gP hK 3 1 1 4 rfl (by decide) ?_
      refine r_hop hK hSd hc60 hm ?_
      rw [hM.2 (z + (79 + c)) (by omega), hs2]
      refine rn_eq (tb_get (o := 4) (nc := 9) (c := 6) hK (by decide) hTd rfl hs1 rfl (by decide)) ?_
      have e6 : vS R 6 s = nI (sln R s) := (hW s hs1).2.1.1
      have l6 := (hW s hs1).2.1.2
      have efc : f c = f0 c := by
        rw [hf c hc60, if_neg (fun q => by rw [c1] at q; cases q.2)]
      have efm : f m = f0 m := by
        rw [hf m hm, if_neg (fun q => by rw [hmf] at q; cases q.1)]
      have bc := hf0 c hc60
      rw [hrow c hc60, hrow m hm, e6, efc, efm, nI_add, hs3, o_min_nI (by omega) (by omega)]
      refine rn_eq (q_sI hR c rfl hc60 (by decide)) ?_
      rw [nI_1]
      have hcl : ∀ a, bit (fr &&& (fr - 1)) a = (bit fr a && !decide (a = c)) := fun a => bit_clr c1 c2
      refine ih _ (va_up f c (min (f0 c) (f0 m + ml c))) _ (by omega) (by omega) (hM.tr MGr.w) (fun a ha => ?_) (fun a ha => ?_) (fun a q => ?_)
      · rw [wI_s]
        by_cases e : a = c
        · rw [e, va_up_s, va_up_s]
        · rw [va_up_n e, va_up_n e]
          exact hrow a ha
      · rw [hcl]
        by_cases e : a = c
        · subst e
          rw [va_up_s, if_pos ⟨hcb.1, by simp⟩]
        · rw [va_up_n e, hf a ha]
          simp [e]
      · rw [hcl, Bool.and_eq_true] at q
        have q1 := hb a q.1
        have q2 : a ≠ c := fun e => by
          rw [e] at q
          simp at q
        have : ¬ a < c := fun r => by
          have := c2 a r
          rw [q.1] at this
          cases this
        exact ⟨q1.1, by omega⟩
theorem dj_room (hN : WN R) (h : DJ R g f S B k) (hm : bit B m = true) : k + 1 ≤ 60 := by
  obtain ⟨-, -, h5, -, -, -, -, -, h11⟩ := h
  have n0 := hN.1.2
  have hm2 := h5 m hm
  have r := smN_up (f := fun j => if bit S j = true then 1 else 0) (c := m) (v := 1) (nn R 0) hm2.1
  rw [if_neg (by rw [hm2.2]; decide)] at r
  have q := smN_le (f := va_up (fun j => if bit S j = true then 1 else 0) m 1) (g := fun _ => 1) (nn R 0) (fun j _ => by
    unfold va_up
    split
    · exact Nat.le_refl _
    · show (if bit S j = true then 1 else 0) ≤ 1
      split <;> omega)
  rw [smN_const] at q
  omega
theorem meas_loop (hN2 : 300 ≤ N) (hK : KS sh z) (hw : OWS ow z) (hN : WN R) (hW : WS R) (hS : SPN d0 z) (hT : TB sh d0 z ow 4 9 (nn R 1) (vS R) L) (hH : HopOK d0 z R) (hg : g < 60) : ∀ (p k fu : Nat) (d : Dt) (f : Nat → Nat) (S B : Int64), k + p = 60 → p < fu → MGr z g d0 d → (∀ a, a < 60 → d.1 (z + (141 + g)) a = nI (f a)) → DJ R g f S B k → Rn (f_X10_measure_27 N sh fu (z + 77) (z + (141 + g)) B S (nI k) d) (fun d' => MGr z g d0 d' ∧ ∀ a, a < 60 → dOK R 1000000000 a g (d'.1 (z + (141 + g)) a))
  | 0, k, fu, d, f, S, B, hk, hfu, hM, hrow, hJ => by
    obtain ⟨fu, rfl⟩ : ∃ q, fu = q + 1 := ⟨fu - 1, by omega⟩
    show Rn (g_X10_measure_27 N sh (f_X10_measure_27 N sh fu) (z + 77) (z + (141 + g)) B S (nI k) d) _
    unfold g_X10_measure_27
    refine rn_t ((nI_leI (a := 60) (by omega) (by omega)).mpr (by omega)) ?_
    have hB0 : B = 0 := by
      by_cases h0 : B = 0
      · exact h0
      · obtain ⟨c, hc, c1, c2⟩ := bit_ex h0
        have := dj_room hN hJ c1
        omega
    subst hB0
    refine rn_some ⟨hM, fun a ha => ?_⟩
    rw [hrow a ha]
    exact dj_end hN hW hJ (by omega) a ha
  | p + 1, k, fu, d, f, S, B, hk, hfu, hM, hrow, hJ => by
    obtain ⟨fu, rfl⟩ : ∃ q, fu = q + 1 := ⟨fu - 1, by omega⟩
    have ih := meas_loop hN2 hK hw hN hW hS hT hH hg p (k + 1) fu
    show Rn (g_X10_measure_27 N sh (f_X10_measure_27 N sh fu) (z + 77) (z + (141 + g)) B S (nI k) d) _
    unfold g_X10_measure_27
    refine rn_f (nI_ge (b := 60) (by omega) (by decide)) ?_
    by_cases h0 : B = 0
    · refine rn_t (cmp0.mpr h0) ?_
      subst h0
      refine rn_some ⟨hM, fun a ha => ?_⟩
      rw [hrow a ha]
      exact dj_end hN hW hJ (by omega) a ha
    · refine rn_f (fun q => h0 (cmp0.mp q)) ?_
      have n0 := hN.1.2
      have n1 := hN.2.1.2
      have hBn : ∀ j, bit B j = true → j < 60 := fun j q => by
        have := (hJ.2.2.1 j q).1
        omega
      have hfb : ∀ a, a < 60 → f a ≤ 1000000000 := fun a ha => by
        by_cases q : bit S a = true ∨ bit B a = true
        · have := hJ.2.2.2.1 a ha q
          omega
        · have := hJ.2.2.2.2.1 a ha (bool_f (fun r => q (Or.inl r))) (bool_f (fun r => q (Or.inr r)))
          omega
      refine rn_bind (k_nearestOf (by omega) (ks_a hK (141 + g) 0 60 (ck_gap hg)) (fun a ha => ⟨hrow a ha, hfb a ha⟩) hBn h0) (fun r hr => ?_)
      obtain ⟨m, rfl, hm, hmin⟩ := hr
      have hm60 := hBn m hm
      refine r_gP hK 77 10 2 139 rfl (by decide) ?_
      refine rn_eq (q_aJ (ks_a hK 139 1 60 rfl) m rfl hm60 (by decide)) ?_
      have hI : d.2.1 (z + 139) m = d0.2.1 (z + 139) m := by rw [hM.1]
      rw [hI]
      have hIb : ∀ a, bit (d0.2.1 (z + 139) m) a = true ↔ ∃ s, a < 60 ∧ edge R s a m := fun a => by
        rcases Nat.lt_or_ge a 60 with q | q
        · rw [(hH.1 a m q hm60).2]
          exact ⟨fun ⟨s, hs⟩ => ⟨s, q, hs⟩, fun ⟨s, _, hs⟩ => ⟨s, hs⟩⟩
        · rw [hH.2 a m hm60 q]
          exact ⟨fun r => (by cases r), fun ⟨s, r, _⟩ => absurd r (by omega)⟩
      have hhop : ∀ a, bit (d0.2.1 (z + 139) m) a = true → ∃ s, d0.1 (z + (79 + a)) m = nI s ∧ edge R s a m ∧ ∀ s', edge R s' a m → sln R s ≤ sln R s' := fun a q => by
        obtain ⟨s0, ha, he⟩ := (hIb a).mp q
        rcases (hH.1 a m ha hm60).1 with ⟨_, q2⟩ | ⟨s, q1, q2, q3⟩
        · exact absurd he (q2 s0)
        · exact ⟨s, q1, q2, fun s' hs' => by have := q3 s' hs'; omega⟩
      have hmb := hJ.2.2.2.1 m hm60 (Or.inr hm)
      refine relax_loop (d0 := d) (f0 := f) (ml := fun a => sln R (d0.1 (z + (79 + a)) m).toNatClampNeg) (fr0 := d0.2.1 (z + 139) m &&& ((S ||| bt m) ^^^ (-1))) hK hw hN hW hg hm60 ?_ (fun a q => ?_) hfb (by omega) (hS.wfr (hM.wfr hg)) (tb_wfr hK hw (by decide) hT (hM.wfr hg) (by omega)) (fun d' f' M' hrow' hf' => ?_) 60 0 N d f _ (by omega) (by omega) MGr.rf hrow (fun a ha => ?_) (fun a q => ⟨q, Nat.zero_le _⟩)
      · rw [bit_and, bit_not (by omega), bit_or, bit_bt hm60]
        simp
      · rw [bit_and, Bool.and_eq_true] at q
        obtain ⟨s0, ha, he⟩ := (hIb a).mp q.1
        obtain ⟨s, q1, q2, q3⟩ := hhop a q.1
        refine ⟨ha, s, q2.1, by rw [hM.2 (z + (79 + a)) (by omega)]; exact q1, ?_⟩
        show sln R s = sln R (d0.1 (z + (79 + a)) m).toNatClampNeg
        have := q2.1
        rw [q1, nI_clamp (by omega)]
      · rw [nI_1]
        refine ih d' f' _ _ (by omega) (by omega) (hM.tr M') hrow' ?_
        refine dj_step hN hW hJ hm hmin hIb (ml := fun a => sln R (d0.1 (z + (79 + a)) m).toNatClampNeg) (fun a q => ?_) hf'
        obtain ⟨s, q1, q2, q3⟩ := hhop a q
        refine ⟨s, q2, ?_, q3⟩
        show sln R (d0.1 (z + (79 + a)) m).toNatClampNeg = sln R s
        have := q2.1
        rw [q1, nI_clamp (by omega)]
      · by_cases q : bit (d0.2.1 (z + 139) m &&& ((S ||| bt m) ^^^ (-1))) a = true
        · rw [if_neg (fun r => absurd (q.symm.trans r.2) (by decide))]
        · rw [if_neg (fun r => q r.1)]
theorem k_measure (hN2 : 300 ≤ N) (hK : KS sh z) (hw : OWS ow z) (hN : WN R) (hW : WS R) (hS : SPN d z) (hT : TB sh d z ow 4 9 (nn R 1) (vS R) L) (hH : HopOK d z R) (hg : g < nn R 0) : Rn (f_X10_measure N sh (z + 77) (nI g) d) (fun d' => MGr z g d d' ∧ ∀ a, a < 60 → dOK R 1000000000 a g (d'.1 (z + (141 + g)) a)) := by
  have n0 := hN.1.2
  have hR := ks_a hK (141 + g) 0 60 (ck_gap (by omega))
  unfold f_X10_measure
  refine rn_t (ks_o hK 77 10 rfl) ?_
  refine r_gP hK 77 10 3 140 rfl (by decide) ?_
  refine rn_eq (q_aQ (ks_a hK 140 5 60 rfl) g (z + (141 + g)) rfl (by omega) (by decide) (hS.2 g (by omega))) ?_
  refine rn_eq (fill_eq hR (by decide) (by omega)) ?_
  refine rn_eq (q_sI hR g rfl (by omega) (by decide)) ?_
  refine meas_loop (d0 := d) hN2 hK hw hN hW hS hT hH (by omega) 60 0 N _ (fun a => if a = g then 0 else 1000000000) 0 (bt g) (by omega) (by omega) ⟨rfl, fun a q => ?_⟩ (fun a ha => ?_) (dj_0 hg hN)
  · rw [wI_n q]
    exact va_up_n q
  · rw [wI_s]
    show va_up (va_up d.1 (z + (141 + g)) (fun k => if k < 60 then 1000000000 else d.1 (z + (141 + g)) k) (z + (141 + g))) g 0 a = nI (if a = g then 0 else 1000000000)
    rw [va_up_s]
    by_cases e : a = g
    · rw [e, va_up_s, if_pos rfl]
      rfl
    · rw [va_up_n e, if_pos ha, if_neg e]
      rfl
end ME2
/-! 69.each.lean.txt -/
section EA
variable {β : Type} {Q : β → Prop} {sh : Sh} {d d0 d1 d' : Dt} {z : Nat} {ow : Nat → Nat} {R : Nat → Int32} {N : Nat} {L : Nat → Nat} {x goals : Int64} {c a b u n : Nat}
set_option maxRecDepth 20000 in
theorem shr_all : ∀ u : Fin 64, ((((nI u.val).toInt64 &&& 63).toBitVec).smod 64).toNat = u.val := by decide +kernel
theorem bit_shr (hc : c < 60) : bit (x >>> ((nI c).toInt64 &&& 63)) 0 = bit x c := by
  unfold bit
  have e : (x >>> ((nI c).toInt64 &&& 63)).toBitVec = x.toBitVec.sshiftRight ((((nI c).toInt64 &&& 63).toBitVec).smod 64).toNat := rfl
  rw [e, shr_all ⟨c, by omega⟩, BitVec.getLsbD_sshiftRight]
  simp
  omega
theorem bit_one : bit 1 a = decide (a = 0) := by
  have e : (1 : Int64) = bt 0 := by decide
  rw [e, bit_bt (by decide)]
  by_cases h : a = 0
  · subst h
    rfl
  · simp [h]
    omega
theorem bit_tst (hc : c < 60) : lg_cmp ((x >>> ((nI c).toInt64 &&& 63)) &&& 1) 1 = 0 ↔ bit x c = true := by
  rw [cmp0, ← bit_shr hc]
  generalize x >>> ((nI c).toInt64 &&& 63) = w
  refine ⟨fun q => ?_, fun q => bit_ext (fun j hj => ?_)⟩
  · have r : bit (w &&& 1) 0 = bit 1 0 := by rw [q]
    rw [bit_and, bit_one] at r
    simpa using r
  · rw [bit_and, bit_one]
    by_cases e : j = 0
    · subst e
      rw [q]
      rfl
    · simp [e]
/-- only lengths are touched -/
def MGa (z : Nat) (d d' : Dt) : Prop := d'.2 = d.2 ∧ ∀ a, a < z + 141 ∨ z + 200 < a → d'.1 a = d.1 a
theorem MGa.rf : MGa z d d := ⟨rfl, fun _ _ => rfl⟩
theorem MGa.gr {g : Nat} (h : MGa z d d1) (h2 : MGr z g d1 d') (hg : g < 60) : MGa z d d' := ⟨h2.1.trans h.1, fun a q => (h2.2 a (by omega)).trans (h.2 a q)⟩
theorem MGa.wfr (h : MGa z d d') : WFR z d d' := ⟨by rw [h.1], fun a q => ⟨h.2 a (by omega), by rw [h.1]⟩⟩
theorem MGa.hop (h : MGa z d d') (hH : HopOK d z R) : HopOK d' z R := by
  refine ⟨fun u v hu hv => ?_, fun u v hv hu => ?_⟩
  · rw [h.2 (z + (79 + u)) (by omega), h.1]
    exact hH.1 u v hu hv
  · rw [h.1]
    exact hH.2 u v hv hu
def EAQ (z : Nat) (R : Nat → Int32) (goals : Int64) (d d' : Dt) : Prop := WFR z d d' ∧ d'.1 (z + 77) 5 = 1 ∧ HopOK d' z R ∧ GapOK d' z R ∧ ∀ v, bit goals v = true → bit (d'.2.1 (z + 77) 4) v = true
theorem mE_loop (hN2 : 300 ≤ N) (hK : KS sh z) (hw : OWS ow z) (hN : WN R) (hW : WS R) (hf : WFR z d0 d1) (hS : SPN d1 z) (hT : TB sh d1 z ow 4 9 (nn R 1) (vS R) L) (hR0 : d1.1 (z + 3) 0 = R 0) (h5 : d1.1 (z + 77) 5 = 1) (hH : HopOK d1 z R) (hgo : ∀ j, bit goals j = true → j < nn R 0) : ∀ (p i fu : Nat) (d : Dt), i + p = nn R 0 → p < fu → MGa z d1 d → (∀ v, v < 60 → (bit (d1.2.1 (z + 77) 4) v = true ∨ (bit goals v = true ∧ v < i)) → ∀ u, u < 60 → dOK R 1000000000 u v (d.1 (z + (141 + v)) u)) → Rn (f_X10_measureEach_6 N sh fu (z + 77) goals (nI i) d) (EAQ z R goals d0)
  | 0, i, fu, d, hi, hfu, hM, hv => by
    obtain ⟨fu, rfl⟩ : ∃ q, fu = q + 1 := ⟨fu - 1, by omega⟩
    show Rn (g_X10_measureEach_6 N sh (f_X10_measureEach_6 N sh fu) (z + 77) goals (nI i) d) _
    have n0 := hN.1
    unfold g_X10_measureEach_6
    refine r_gP hK 77 10 0 3 rfl (by decide) ?_
    refine r_gI hK (i := 3) (c := 1) rfl ?_
    rw [hM.2 (z + 3) (by omega), hR0, n0.1]
    refine rn_t ((nI_leI (by omega) (by omega)).mpr (by omega)) ?_
    unfold f_X10_measureEach_53
    refine r_gJ hK (i := 77) (c := 10) rfl ?_
    refine r_pJ hK (i := 77) (c := 10) rfl ?_
    have e4 : (wJ d (z + 77) 4 (d.2.1 (z + 77) 4 ||| goals)).2.1 (z + 77) 4 = d1.2.1 (z + 77) 4 ||| goals := by
      show up2 d.2.1 (z + 77) 4 (d.2.1 (z + 77) 4 ||| goals) (z + 77) 4 = _
      rw [up2_s, va_up_s, hM.1]
    refine rn_some ⟨(hf.tr hM.wfr).tr (WFR.wJ (by omega) (by omega)), ?_, ⟨fun x y hx hy => ?_, fun x y hy hx => ?_⟩, fun v hv2 hb u hu => ?_, fun v hb => ?_⟩
    · show d.1 (z + 77) 5 = 1
      rw [hM.2 (z + 77) (by omega)]
      exact h5
    · have q := (hM.hop hH).1 x y hx hy
      have e2 : (wJ d (z + 77) 4 (d.2.1 (z + 77) 4 ||| goals)).2.1 (z + 139) = d.2.1 (z + 139) := up2_n (by omega)
      rw [e2]
      exact q
    · have e2 : (wJ d (z + 77) 4 (d.2.1 (z + 77) 4 ||| goals)).2.1 (z + 139) = d.2.1 (z + 139) := up2_n (by omega)
      rw [e2]
      exact (hM.hop hH).2 x y hy hx
    · rw [e4, bit_or, Bool.or_eq_true] at hb
      exact hv v hv2 (hb.imp id (fun r => ⟨r, by have := hgo v r; omega⟩)) u hu
    · rw [e4, bit_or, hb]
      simp
  | p + 1, i, fu, d, hi, hfu, hM, hv => by
    obtain ⟨fu, rfl⟩ : ∃ q, fu = q + 1 := ⟨fu - 1, by omega⟩
    have ih := mE_loop hN2 hK hw hN hW hf hS hT hR0 h5 hH hgo p (i + 1) fu
    show Rn (g_X10_measureEach_6 N sh (f_X10_measureEach_6 N sh fu) (z + 77) goals (nI i) d) _
    have n0 := hN.1
    unfold g_X10_measureEach_6
    refine r_gP hK 77 10 0 3 rfl (by decide) ?_
    refine r_gI hK (i := 3) (c := 1) rfl ?_
    rw [hM.2 (z + 3) (by omega), hR0, n0.1]
    refine rn_f (nI_ge (by omega) (by omega)) ?_
    refine rn_f (nI_ge (b := 60) (by omega) (by decide)) ?_
    refine r_gJ hK (i := 77) (c := 10) rfl ?_
    have hM4 : d.2.1 (z + 77) 4 = d1.2.1 (z + 77) 4 := by rw [hM.1]
    rw [hM4]
    have hbt : bit (goals &&& (d1.2.1 (z + 77) 4 ^^^ (-1))) i = true ↔ (bit goals i = true ∧ ¬ bit (d1.2.1 (z + 77) 4) i = true) := by
      rw [bit_and, bit_not (by omega), Bool.and_eq_true]
      refine and_congr Iff.rfl ?_
      cases bit (d1.2.1 (z + 77) 4) i <;> simp
    unfold f_X10_measureEach_47
    rw [nI_1]
    refine rn_ite (fun h1 => ?_) (fun h1 => ?_)
    · have h1 : ¬ (bit goals i = true ∧ ¬ bit (d1.2.1 (z + 77) 4) i = true) := fun q => h1 ((bit_tst (by omega)).mpr (hbt.mpr q))
      refine ih d (by omega) (by omega) hM (fun v hv2 hb => hv v hv2 ?_)
      rcases hb with hb | hb
      · exact Or.inl hb
      · by_cases e : v = i
        · subst e
          by_cases q : bit (d1.2.1 (z + 77) 4) v = true
          · exact Or.inl q
          · exact absurd ⟨hb.1, q⟩ h1
        · exact Or.inr ⟨hb.1, by omega⟩
    · have h1 := hbt.mp ((bit_tst (by omega)).mp (Decidable.of_not_not h1))
      refine rn_bind (k_measure hN2 hK hw hN hW (hS.wfr hM.wfr) (tb_wfr hK hw (by decide) hT hM.wfr (by omega)) (hM.hop hH) (g := i) (by omega)) (fun d2 hd => ?_)
      refine ih d2 (by omega) (by omega) (hM.gr hd.1 (by omega)) (fun v hv2 hb u hu => ?_)
      by_cases e : v = i
      · subst e
        exact hd.2 u hu
      · rw [hd.1.2 (z + (141 + v)) (by omega)]
        exact hv v hv2 (hb.imp id (fun r => ⟨r.1, by omega⟩)) u hu
theorem k_measureEach (hN2 : 300 ≤ N) (hK : KS sh z) (hw : OWS ow z) (hN : WN R) (hW : WS R) (hS : SPN d z) (hT : TB sh d z ow 4 9 (nn R 1) (vS R) L) (hy : WY d z R) (hR0 : d.1 (z + 3) 0 = R 0) (hgo : ∀ j, bit goals j = true → j < nn R 0) : Rn (f_X10_measureEach N sh (z + 77) goals d) (EAQ z R goals d) := by
  have n0 := hN.1.2
  unfold f_X10_measureEach
  refine rn_t (ks_o hK 77 10 rfl) ?_
  refine rn_bind (k_prepare hN2 hK hw hN hW hS hT hy) (fun d1 hd => ?_)
  obtain ⟨h1, h2, h3, h4⟩ := hd
  refine mE_loop hN2 hK hw hN hW h1 (hS.wfr h1) (tb_wfr hK hw (by decide) hT h1 (by omega)) (by rw [(h1.2 (z + 3) (by omega)).1]; exact hR0) h2 h3 hgo (nn R 0) 0 N d1 (by omega) (by omega) MGa.rf (fun v hv hb => ?_)
  rcases hb with hb | hb
  · exact h4 v hv hb
  · exact absurd hb.2 (Nat.not_lt_zero v)
theorem k_between (hK : KS sh z) (hS : SPN d z) (ha : a < 60) (hb : b < 60) : f_X10_between N sh (z + 77) (nI a) (nI b) d = some (d.1 (z + (141 + b)) a) := by
  refine rn_val ?_
  unfold f_X10_between
  refine rn_t (ks_o hK 77 10 rfl) ?_
  refine rn_f (nI_pos (by omega)) ?_
  refine rn_f (nI_ge (b := 60) ha (by decide)) ?_
  refine rn_f (nI_pos (by omega)) ?_
  refine rn_f (nI_ge (b := 60) hb (by decide)) ?_
  unfold f_X10_between_25
  refine rn_f (by decide) ?_
  refine r_gap hK hS hb ha ?_
  exact rn_some rfl
theorem ti_iff2 {s : Nat} {x y : Int32} (hW : WS R) (hc : c < nn R 0) (he : edge R s u c) (hd : dst R u b n) (hx : dOK R 1000000000 u b x) (hy : dOK R 1000000000 c b y) : nI (sln R s) + y = x ↔ tight R b u s c := by
  have hl := edge_sln hW he
  rcases hx with ⟨n', h1, h2, rfl⟩ | ⟨h1, _⟩
  · have en := dst_fun hd h1
    subst en
    rcases hy with ⟨m, h3, h4, rfl⟩ | ⟨h3, rfl⟩
    · rw [nI_add]
      refine ⟨fun q => ⟨hc, he, n, m, h1, h3, (nI_inj q (by omega) (by omega)).symm⟩, fun q => ?_⟩
      obtain ⟨_, _, n', m', r1, r2, r3⟩ := q
      rw [dst_fun h1 r1, dst_fun h3 r2, r3]
    · rw [nI_add]
      refine ⟨fun q => ?_, fun q => ?_⟩
      · have := nI_inj q (by omega) (by omega)
        omega
      · obtain ⟨_, _, n', m', r1, ⟨⟨p, r2, _⟩, _⟩, r3⟩ := q
        exact absurd r2 (h3 p)
  · obtain ⟨⟨p, q, _⟩, _⟩ := hd
    exact absurd q (h1 p)
theorem next_loop (hK : KS sh z) (hN : WN R) (hW : WS R) (hS : SPN d z) (hT : TB sh d z ow 4 9 (nn R 1) (vS R) L) (hH : HopOK d z R) (hb : b < nn R 0) (hgb : ∀ a, a < 60 → dOK R 1000000000 a b (d.1 (z + (141 + b)) a)) (hu : u < nn R 0) (hd : dst R u b n) (hq : nxS R b u (nxt R b u).1 (nxt R b u).2) : ∀ (p i fu : Nat), i + p = (nxt R b u).2 → p < fu → f_X10_nextStreet_22 N sh d fu (z + 77) (nI u) (nI b) (d.1 (z + (141 + b)) u) (nI i) = some (nI (nxt R b u).1)
  | 0, i, fu, hi, hfu => by
    obtain ⟨fu, rfl⟩ : ∃ q, fu = q + 1 := ⟨fu - 1, by omega⟩
    show g_X10_nextStreet_22 N sh (f_X10_nextStreet_22 N sh d fu) (z + 77) (nI u) (nI b) (d.1 (z + (141 + b)) u) (nI i) d = _
    have n0 := hN.1.2
    have n1 := hN.2.1.2
    have ei : i = (nxt R b u).2 := by omega
    obtain ⟨t1, t2, n', m', t3, t4, t5⟩ := hq.1
    refine rn_val ?_
    unfold g_X10_nextStreet_22
    refine rn_f (nI_ge (b := 60) (by omega) (by decide)) ?_
    refine r_hop hK hS (by omega) (by omega) ?_
    rw [ei]
    rcases (hH.1 u (nxt R b u).2 (by omega) (by omega)).1 with ⟨_, q2⟩ | ⟨s, q1, q2, q3⟩
    · exact absurd t2 (q2 _)
    · have hs := q2.1
      rw [q1]
      refine rn_f (nI_m1 (by omega)) ?_
      refine r_stc 6 hK hT hs (by decide) rfl ?_
      rw [(hW s hs).2.1.1]
      refine r_gap hK hS (by omega) (by omega) ?_
      have hs1 : s = (nxt R b u).1 := by
        have r1 := q3 _ t2
        have r2 : n' ≤ sln R s + m' := by
          obtain ⟨⟨p, p1, p2⟩, -⟩ := t4
          have := t3.2 (s :: p) ⟨_, t1, q2, p1⟩
          have e : wln R (s :: p) = sln R s + wln R p := rfl
          omega
        have r3 : tight R b u s (nxt R b u).2 := ⟨t1, q2, n', m', t3, t4, by omega⟩
        have r4 := hq.2 s _ r3
        omega
      have := (ti_iff2 hW t1 q2 hd (hgb u (by omega)) (hgb _ (by omega))).mpr (by rw [hs1]; exact hq.1)
      refine rn_f (fun q => q this) ?_
      rw [hs1]
      exact rn_some rfl
  | p + 1, i, fu, hi, hfu => by
    obtain ⟨fu, rfl⟩ : ∃ q, fu = q + 1 := ⟨fu - 1, by omega⟩
    have ih := next_loop hK hN hW hS hT hH hb hgb hu hd hq p (i + 1) fu (by omega) (by omega)
    show g_X10_nextStreet_22 N sh (f_X10_nextStreet_22 N sh d fu) (z + 77) (nI u) (nI b) (d.1 (z + (141 + b)) u) (nI i) d = _
    have n0 := hN.1.2
    have n1 := hN.2.1.2
    have hc2 := hq.1.1
    refine rn_val ?_
    unfold g_X10_nextStreet_22 f_X10_nextStreet_77
    rw [nI_1, ih]
    refine rn_f (nI_ge (b := 60) (by omega) (by decide)) ?_
    refine r_hop hK hS (by omega) (by omega) ?_
    rcases (hH.1 u i (by omega) (by omega)).1 with ⟨q1, q2⟩ | ⟨s, q1, q2, q3⟩
    · rw [q1]
      exact rn_t rfl (rn_some rfl)
    · have hs := q2.1
      rw [q1]
      refine rn_f (nI_m1 (by omega)) ?_
      refine r_stc 6 hK hT hs (by decide) rfl ?_
      rw [(hW s hs).2.1.1]
      refine r_gap hK hS (by omega) (by omega) ?_
      refine rn_t (fun q => ?_) (rn_some rfl)
      have ht := (ti_iff2 hW (by omega) q2 hd (hgb u (by omega)) (hgb i (by omega))).mp q
      have := hq.2 s i ht
      omega
/-- the next STREET of THE WAY to a CROSSING that was measured -/
theorem k_nextStreet (hN2 : 300 ≤ N) (hK : KS sh z) (hN : WN R) (hW : WS R) (hS : SPN d z) (hT : TB sh d z ow 4 9 (nn R 1) (vS R) L) (hH : HopOK d z R) (hb : b < nn R 0) (hgb : ∀ a, a < 60 → dOK R 1000000000 a b (d.1 (z + (141 + b)) a)) (hu : u < nn R 0) : ((∃ n, dst R u b n) → u ≠ b → f_X10_nextStreet N sh (z + 77) (nI u) (nI b) d = some (nI (nxt R b u).1)) ∧ ((u = b ∨ ∀ p, ¬ wk R p u b) → f_X10_nextStreet N sh (z + 77) (nI u) (nI b) d = some (-1)) := by
  have n0 := hN.1.2
  refine ⟨fun hd hne => ?_, fun h => ?_⟩
  · obtain ⟨n, hd⟩ := hd
    have hq := nxt_ok hd hne
    have hc2 := hq.1.1
    unfold f_X10_nextStreet
    rw [if_pos (ks_o hK 77 10 rfl), k_between hK hS (by omega) (by omega)]
    show (if d.1 (z + (141 + b)) u = 0 then _ else _) = _
    rcases hgb u (by omega) with ⟨n', h1, h2, h3⟩ | ⟨h1, _⟩
    · have en := dst_fun hd h1
      subst en
      have hpos : 0 < n := by
        obtain ⟨_, t2, n', m', t3, _, t5⟩ := hq.1
        have := dst_fun hd t3
        have := edge_sln hW t2
        omega
      have e1 : ¬ d.1 (z + (141 + b)) u = 0 := by
        rw [h3]
        exact nI_ne0 hpos (by omega)
      have e2 : d.1 (z + (141 + b)) u < 1000000000 := by
        rw [h3]
        exact nI_lt (b := 1000000000) (by omega) (by decide)
      rw [if_neg e1, if_pos e2]
      exact next_loop hK hN hW hS hT hH hb hgb hu hd hq (nxt R b u).2 0 N (by omega) (by omega)
    · obtain ⟨⟨p, q, _⟩, _⟩ := hd
      exact absurd q (h1 p)
  · unfold f_X10_nextStreet
    rw [if_pos (ks_o hK 77 10 rfl), k_between hK hS (by omega) (by omega)]
    show (if d.1 (z + (141 + b)) u = 0 then _ else _) = _
    rcases hgb u (by omega) with ⟨n', h1, h2, h3⟩ | ⟨h1, h3⟩
    · rcases h with h | h
      · subst h
        have := dst_fun h1 dst_b
        subst this
        rw [h3, if_pos nI_0]
        rfl
      · obtain ⟨⟨p, q, _⟩, _⟩ := h1
        exact absurd q (h p)
    · rw [h3, if_neg (by decide), if_neg (by decide)]
      rfl
end EA
/-! 70.way2.lean.txt -/
/-! way(), wayAt(): they run, and keep what stands -/
def KR (z : Nat) (R K : Nat → Int32) (u : Bool) (c : Nat) (s : AS) (r : Int32 × Dt) : Prop := KD z R K u c (r.1, none) s r
def RR (z : Nat) (R K : Nat → Int32) (u : Bool) (d : Dt) (r : Int32 × Dt) : Prop := RO z R K u (r.1, none) d r
section WW
variable {s : AS} {sh : Sh} {d d0 d' : Dt} {z : Nat} {ow : Nat → Nat} {R K : Nat → Int32} {u : Bool} {y : YL} {c N : Nat}
theorem kr_lg {r : Int32 × Dt} {d1 : Dt} {v : Int32} (h : CI (s.1, d1) z ow R K u y c) (hf : RFR z s (s.1, d1)) (hr : r.1 = v ∧ LG z d1 r.2) : KR z R K u c s r := by
  have q := ci_lg (s := (s.1, d1)) h hr.2
  exact ⟨rfl, hf.tr q.2, ow, y, q.1⟩
theorem rr_refuses {v : Int32} (hK : KS sh z) (h : RI d z R K u) (hm : MFR z d0 d) : Rn ((f_X12_refuses N sh (z + 242) v d).bind fun r => some (r.1, r.2)) (RR z R K u d0) := by
  refine rn_bind (m_refuses hK) (fun r hr => ?_)
  exact rn_some ⟨rfl, hm.tr hr.2.mfr, ri_rg h hr.2⟩
theorem rr_says {v : Int32} (hK : KS sh z) (h : RI d z R K u) (hm : MFR z d0 d) : Rn ((f_X12_says N sh (z + 242) v d).bind fun r => some (r.1, r.2)) (RR z R K u d0) := by
  refine rn_eq (m_says hK) ?_
  exact rn_some ⟨rfl, hm.tr (MFR.wI (by decide) (by decide)), ri_rg h (RG.w242 (Or.inl rfl))⟩
theorem m_way {x x2 : Int32} (hNf : 2 ^ 40 ≤ N) (hK : KS sh z) (h : RI d z R K u) (hR : WF R) : Rn (f_X12_way N sh (z + 242) x x2 d) (RR z R K u d) := by
  have n0 := hR.1.1.2
  have hF := ks_a hK 247 0 3600 rfl
  unfold f_X12_way
  refine rn_t (ks_o hK 242 12 rfl) ?_
  refine rn_eq (ri_isCrossing hK h hR.1) ?_
  refine rn_ite (fun h1 => rr_refuses hK h MFR.rf) (fun h1 => ?_)
  obtain ⟨a, ha, rfl, -⟩ := st_of (by omega) (fun q => h1 (ite01.mpr q))
  refine rn_eq (ri_isCrossing hK h hR.1) ?_
  refine rn_ite (fun h2 => ?_) (fun h2 => rr_refuses hK h MFR.rf)
  obtain ⟨b, hb, rfl, -⟩ := st_of (by omega) (fun q => h2 (ite01.mpr q))
  refine rn_bind (m_reckon hNf hK h hR) (fun d1 hd => ?_)
  obtain ⟨k1, k2, k3⟩ := hd
  refine r_gP hK 242 12 9 247 rfl (by decide) ?_
  refine rn_eq (q_aT hF (60 * a + b) (ix_far a b) (by omega) (by decide)) ?_
  refine rn_ite (fun h3 => ?_) (fun h3 => rr_refuses hK k2 k1.mfr)
  refine r_gP hK 242 12 9 247 rfl (by decide) ?_
  refine rn_eq (q_aT hF (60 * a + b) (ix_far a b) (by omega) (by decide)) ?_
  exact rr_says hK k2 k1.mfr
theorem wayAt_loop {b : Nat} {l3 : Int32} (hN1 : 151 ≤ N) (hK : KS sh z) (h : RI d z R K u) (hR : WF R) (hm : MFR z d0 d) (hfar : ∀ a b, a < nn R 0 → b < nn R 0 → dOK R 268435456 a b (d.1 (z + 247) (60 * a + b))) (hb : b < nn R 0) : ∀ (k a fu : Nat) (l5 : Int32), rk R b k a → a < nn R 0 → k < fu → Rn (f_X12_wayAt_56 N sh fu (z + 242) (nI b) l3 (nI a) l5 d) (RR z R K u d0)
  | k, a, 0, l5, hk, ha, hf => absurd hf (Nat.not_lt_zero k)
  | 0, a, fu + 1, l5, hk, ha, hf => by
    show Rn (g_X12_wayAt_56 N sh (f_X12_wayAt_56 N sh fu) (z + 242) (nI b) l3 (nI a) l5 d) _
    unfold g_X12_wayAt_56
    refine rn_ite (fun _ => rr_says hK h hm) (fun _ => ?_)
    have hk : a = b := hk
    exact rn_t (by rw [hk]) (rr_says hK h hm)
  | k + 1, a, fu + 1, l5, hk, ha, hf => by
    have n0 := hR.1.1.2
    have n1 := hR.1.2.1.2
    have ih := wayAt_loop (l3 := l3) hN1 hK h hR hm hfar hb k
    show Rn (g_X12_wayAt_56 N sh (f_X12_wayAt_56 N sh fu) (z + 242) (nI b) l3 (nI a) l5 d) _
    unfold g_X12_wayAt_56
    refine rn_ite (fun _ => rr_says hK h hm) (fun _ => ?_)
    refine rn_ite (fun _ => rr_says hK h hm) (fun h2 => ?_)
    have hne : a ≠ b := fun e => h2 (by rw [e])
    obtain ⟨⟨n, hd⟩, hq, hr⟩ := hk.resolve_left hne
    have hs := hq.1.2.1.1
    refine rn_eq (m_onTo hN1 hK hR.1 hR.2.2.1 h.1 hfar ha hb hd hne) ?_
    refine rn_ite (fun h3 => ?_) (fun h3 => rr_says hK h hm)
    refine rn_eq (m_leads hK h.1 (by omega)) ?_
    rw [nxt_leads hR.2.2.1 hR.1 ha hq]
    exact ih _ fu _ hr hq.1.1 (by omega)
theorem m_wayAt {x x2 i : Int32} (hNf : 2 ^ 40 ≤ N) (hK : KS sh z) (h : RI d z R K u) (hR : WF R) : Rn (f_X12_wayAt N sh (z + 242) x x2 i d) (RR z R K u d) := by
  have n0 := hR.1.1.2
  have hF := ks_a hK 247 0 3600 rfl
  unfold f_X12_wayAt
  refine rn_t (ks_o hK 242 12 rfl) ?_
  refine rn_eq (ri_isCrossing hK h hR.1) ?_
  refine rn_ite (fun h1 => rr_refuses hK h MFR.rf) (fun h1 => ?_)
  obtain ⟨a, ha, rfl, -⟩ := st_of (by omega) (fun q => h1 (ite01.mpr q))
  refine rn_eq (ri_isCrossing hK h hR.1) ?_
  refine rn_ite (fun h2 => ?_) (fun h2 => rr_refuses hK h MFR.rf)
  obtain ⟨b, hb, rfl, -⟩ := st_of (by omega) (fun q => h2 (ite01.mpr q))
  refine rn_bind (m_reckon hNf hK h hR) (fun d1 hd => ?_)
  obtain ⟨k1, k2, k3⟩ := hd
  refine r_gP hK 242 12 9 247 rfl (by decide) ?_
  refine rn_eq (q_aT hF (60 * a + b) (ix_far a b) (by omega) (by decide)) ?_
  refine rn_ite (fun h3 => ?_) (fun h3 => rr_refuses hK k2 k1.mfr)
  rcases k3 a b ha hb with ⟨n, q1, q2, q3⟩ | ⟨q1, q2⟩
  · exact wayAt_loop (by omega) hK k2 hR k1.mfr k3 hb 60 a N i (rk_60 hR.2.2.1 hR.1 q1) ha (by omega)
  · rw [q2] at h3
    exact absurd h3 (by decide)
/-! the class -/
theorem k_hasCrossing {v : Int32} (hK : KS sh z) (hR0 : d.1 (z + 3) 0 = R 0) (hN : WN R) : f_X1_hasCrossing N sh (z + 3) v d = some (if v < 0 ∨ nI (nn R 0) ≤ v then 0 else 1) := by
  refine rn_val ?_
  unfold f_X1_hasCrossing
  refine rn_t (ks_o hK 3 1 rfl) ?_
  refine rn_ite (fun h0 => ?_) (fun h0 => ?_)
  · rw [if_pos (Or.inl h0)]
    exact ⟨0, rfl, rfl⟩
  · refine r_gI hK (i := 3) (c := 1) rfl ?_
    rw [hR0, hN.1.1]
    refine rn_ite (fun h1 => ?_) (fun h1 => ?_)
    · rw [if_pos (Or.inr h1)]
      exact ⟨0, rfl, rfl⟩
    · rw [if_neg (fun q => q.elim h0 h1)]
      exact ⟨1, rfl, rfl⟩
theorem CI.spn (h : CI s z ow R K u y c) : SPN s.2 z := ⟨h.2.2.2.2.1.1.1, h.2.2.2.2.1.1.2.1⟩
/-- THE WAYS are measured: what is known then -/
theorem ci_each {goals : Int64} (hN2 : 300 ≤ N) (h : CI s z ow R K u y c) (hR : WF R) (hgo : ∀ j, bit goals j = true → j < nn R 0) : Rn (f_X10_measureEach N s.1 (z + 77) goals s.2) (fun d' => CI (s.1, d') z ow R K u y c ∧ RFR z s (s.1, d') ∧ EAQ z R goals s.2 d') := by
  refine rn_mono (k_measureEach hN2 h.1 h.2.1 hR.1 hR.2.2.1 h.spn h.2.2.1.2.1 h.2.2.2.2.2.2.2.1 h.2.2.1.1 hgo) (fun d' hd => ?_)
  have q := ci_wy h hd.1 (Or.inr ⟨hd.2.1, hd.2.2.1, hd.2.2.2.1⟩)
  exact ⟨q.1, q.2, hd⟩
theorem k_otherEnd {i a : Nat} (hK : KS sh z) {L : Nat → Nat} (hT : TB sh d z ow 4 9 (nn R 1) (vS R) L) (hi : i < nn R 1) : f_X1_otherEnd N sh (z + 3) (nI i) (nI a) d = some (if R (16 + 9 * i + 7) = nI a then R (16 + 9 * i + 8) else R (16 + 9 * i + 7)) := by
  refine rn_val ?_
  unfold f_X1_otherEnd
  refine rn_t (ks_o hK 3 1 rfl) ?_
  refine r_gP hK 3 1 1 4 rfl (by decide) ?_
  refine rn_eq (tb_get (o := 4) (nc := 9) (c := 7) hK (by decide) hT rfl hi rfl (by decide)) ?_
  have e7 : vS R 7 i = R (16 + 9 * i + 7) := rfl
  rw [e7]
  refine rn_ite (fun h1 => ?_) (fun h1 => ?_)
  · rw [if_neg h1]
    exact ⟨_, rfl, rfl⟩
  · rw [if_pos (Decidable.of_not_not h1)]
    refine r_gP hK 3 1 1 4 rfl (by decide) ?_
    refine rn_eq (tb_get (o := 4) (nc := 9) (c := 8) hK (by decide) hT rfl hi rfl (by decide)) ?_
    exact ⟨_, rfl, rfl⟩
/-- the other end of a STREET that leads -/
theorem oth_edge {i a e : Nat} (hW : WS R) (hN : WN R) (ha : a < nn R 0) (he9 : e < nn R 0) (he : edge R i a e) : (if R (16 + 9 * i + 7) = nI a then R (16 + 9 * i + 8) else R (16 + 9 * i + 7)) = nI e := by
  have n0 := hN.1.2
  obtain ⟨⟨ea, eb, ea2, eb2, hne, e7, e8⟩, -⟩ := hW i he.1
  rw [e7, e8]
  rcases (edge_iff (x := a) (y := e) he.1 he.2.1 e7 e8 (by omega) (by omega) (by omega) (by omega)).mp he with ⟨rfl, rfl⟩ | ⟨_, rfl, rfl⟩
  · rw [if_pos rfl]
  · rw [if_neg (fun q => hne (nI_inj q (by omega) (by omega)))]
theorem streetAt_loop {b : Nat} {l3 : Int32} {L : Nat → Nat} (hN2 : 300 ≤ N) (hK : KS sh z) (hR : WF R) (hS : SPN d z) (hT : TB sh d z ow 4 9 (nn R 1) (vS R) L) (hH : HopOK d z R) (hb : b < nn R 0) (hgb : ∀ a, a < 60 → dOK R 1000000000 a b (d.1 (z + (141 + b)) a)) (hl : l3 < 60) : ∀ (p k fu a : Nat) (l5 : Int32), k + p = 60 → p < fu → a < nn R 0 → (l5 = -1 ∨ (l5 = nI (nxt R b a).1 ∧ nxS R b a (nxt R b a).1 (nxt R b a).2)) → Rn (f_X10_streetAt_27 N sh d fu (z + 77) (nI b) l3 (nI a) l5 (nI k)) (fun _ => True)
  | 0, k, fu, a, l5, hk, hf, ha, h5 => by
    obtain ⟨fu, rfl⟩ : ∃ q, fu = q + 1 := ⟨fu - 1, by omega⟩
    show Rn (g_X10_streetAt_27 N sh (f_X10_streetAt_27 N sh d fu) (z + 77) (nI b) l3 (nI a) l5 (nI k) d) _
    unfold g_X10_streetAt_27
    have e : k = 60 := by omega
    subst e
    exact rn_t (Int32.le_of_lt hl) (rn_some trivial)
  | p + 1, k, fu, a, l5, hk, hf, ha, h5 => by
    obtain ⟨fu, rfl⟩ : ∃ q, fu = q + 1 := ⟨fu - 1, by omega⟩
    have n0 := hR.1.1.2
    have n1 := hR.1.2.1.2
    have ih := streetAt_loop hN2 hK hR hS hT hH hb hgb hl p (k + 1) fu
    show Rn (g_X10_streetAt_27 N sh (f_X10_streetAt_27 N sh d fu) (z + 77) (nI b) l3 (nI a) l5 (nI k) d) _
    unfold g_X10_streetAt_27
    refine rn_ite (fun _ => rn_some trivial) (fun h1 => ?_)
    refine rn_ite (fun _ => rn_some trivial) (fun h2 => ?_)
    obtain ⟨e5, hq⟩ := h5.resolve_left h2
    obtain ⟨t1, t2, n', m', t3, t4, t5⟩ := hq.1
    have hs := t2.1
    rw [e5]
    refine r_gP hK 77 10 0 3 rfl (by decide) ?_
    refine rn_eq (k_otherEnd hK hT hs) ?_
    rw [oth_edge hR.2.2.1 hR.1 ha t1 t2]
    have kn := k_nextStreet (N := N) hN2 hK hR.1 hR.2.2.1 hS hT hH hb hgb t1
    rw [nI_1]
    by_cases e : (nxt R b a).2 = b
    · refine rn_eq (kn.2 (Or.inl e)) ?_
      exact ih _ _ (by omega) (by omega) t1 (Or.inl rfl)
    · refine rn_eq (kn.1 ⟨m', t4⟩ e) ?_
      exact ih _ _ (by omega) (by omega) t1 (Or.inr ⟨rfl, nxt_ok t4 e⟩)
theorem k_streetAt {a b : Nat} {i : Int32} {L : Nat → Nat} (hN2 : 300 ≤ N) (hK : KS sh z) (hR : WF R) (hS : SPN d z) (hT : TB sh d z ow 4 9 (nn R 1) (vS R) L) (hH : HopOK d z R) (ha : a < nn R 0) (hb : b < nn R 0) (hgb : ∀ a, a < 60 → dOK R 1000000000 a b (d.1 (z + (141 + b)) a)) : Rn (f_X10_streetAt N sh (z + 77) (nI a) (nI b) i d) (fun _ => True) := by
  have n0 := hR.1.1.2
  unfold f_X10_streetAt
  refine rn_t (ks_o hK 77 10 rfl) ?_
  refine rn_ite (fun _ => rn_some trivial) (fun h1 => ?_)
  refine rn_ite (fun h2 => ?_) (fun h2 => rn_some trivial)
  have kn := k_nextStreet (N := N) hN2 hK hR.1 hR.2.2.1 hS hT hH hb hgb ha
  by_cases e : a = b
  · refine rn_eq (kn.2 (Or.inl e)) ?_
    exact streetAt_loop hN2 hK hR hS hT hH hb hgb h2 60 0 N a _ (by omega) (by omega) ha (Or.inl rfl)
  · rcases hgb a (by omega) with ⟨n, q1, q2, q3⟩ | ⟨q1, q2⟩
    · refine rn_eq (kn.1 ⟨n, q1⟩ e) ?_
      exact streetAt_loop hN2 hK hR hS hT hH hb hgb h2 60 0 N a _ (by omega) (by omega) ha (Or.inr ⟨rfl, nxt_ok q1 e⟩)
    · refine rn_eq (kn.2 (Or.inr q1)) ?_
      exact streetAt_loop hN2 hK hR hS hT hH hb hgb h2 60 0 N a _ (by omega) (by omega) ha (Or.inl rfl)
theorem bt_lt {b : Nat} (hN : WN R) (hb : b < nn R 0) : ∀ j, bit (bt b) j = true → j < nn R 0 := fun j hj => by
  have n0 := hN.1.2
  rw [bit_bt (by omega)] at hj
  rw [← of_decide_eq_true hj]
  exact hb
theorem k_way {x x2 : Int32} (hN2 : 300 ≤ N) (h : CI s z ow R K u y c) (hR : WF R) : Rn (f_X11_way N s.1 z x x2 s.2) (KR z R K u c s) := by
  have hK := h.1
  have n0 := hR.1.1.2
  have hf0 : RFR z s (s.1, s.2) := RFR.rf
  have bad : Rn (f_X11_way_22 N s.1 z s.2) (KR z R K u c s) := by
    unfold f_X11_way_22
    refine rn_bind (k_refuse hK) (fun r hr => rn_some ?_)
    exact kr_lg h hf0 hr
  unfold f_X11_way
  refine rn_t (ks_o hK 0 11 rfl) ?_
  refine r_gP hK 0 11 1 3 rfl (by decide) ?_
  refine rn_eq (k_hasCrossing hK h.2.2.1.1 hR.1) ?_
  refine rn_ite (fun _ => bad) (fun h1 => ?_)
  obtain ⟨a, ha, rfl, -⟩ := st_of (by omega) (fun q => h1 (ite01.mpr q))
  refine r_gP hK 0 11 1 3 rfl (by decide) ?_
  refine rn_eq (k_hasCrossing hK h.2.2.1.1 hR.1) ?_
  refine rn_ite (fun h2 => ?_) (fun _ => bad)
  obtain ⟨b, hb, rfl, -⟩ := st_of (by omega) (fun q => h2 (ite01.mpr q))
  refine r_gP hK 0 11 3 77 rfl (by decide) ?_
  refine rn_bind (ci_each (goals := bt b) hN2 h hR (bt_lt hR.1 hb)) (fun d1 hd => ?_)
  obtain ⟨c1, f1, -⟩ := hd
  refine r_gP hK 0 11 3 77 rfl (by decide) ?_
  refine rn_eq (k_between hK c1.spn (by omega) (by omega)) ?_
  refine rn_ite (fun _ => ?_) (fun _ => ?_)
  · refine rn_bind (k_answer hK) (fun r hr => rn_some ?_)
    exact kr_lg c1 f1 hr
  · refine rn_bind (k_refuse hK) (fun r hr => rn_some ?_)
    exact kr_lg c1 f1 hr
theorem k_wayAt {x x2 i : Int32} (hN2 : 300 ≤ N) (h : CI s z ow R K u y c) (hR : WF R) : Rn (f_X11_wayAt N s.1 z x x2 i s.2) (KR z R K u c s) := by
  have hK := h.1
  have n0 := hR.1.1.2
  have hf0 : RFR z s (s.1, s.2) := RFR.rf
  have bad : Rn (f_X11_wayAt_22 N s.1 z s.2) (KR z R K u c s) := by
    unfold f_X11_wayAt_22
    refine rn_bind (k_refuse hK) (fun r hr => rn_some ?_)
    exact kr_lg h hf0 hr
  unfold f_X11_wayAt
  refine rn_t (ks_o hK 0 11 rfl) ?_
  refine r_gP hK 0 11 1 3 rfl (by decide) ?_
  refine rn_eq (k_hasCrossing hK h.2.2.1.1 hR.1) ?_
  refine rn_ite (fun _ => bad) (fun h1 => ?_)
  obtain ⟨a, ha, rfl, -⟩ := st_of (by omega) (fun q => h1 (ite01.mpr q))
  refine r_gP hK 0 11 1 3 rfl (by decide) ?_
  refine rn_eq (k_hasCrossing hK h.2.2.1.1 hR.1) ?_
  refine rn_ite (fun h2 => ?_) (fun _ => bad)
  obtain ⟨b, hb, rfl, -⟩ := st_of (by omega) (fun q => h2 (ite01.mpr q))
  refine r_gP hK 0 11 3 77 rfl (by decide) ?_
  refine rn_bind (ci_each (goals := bt b) hN2 h hR (bt_lt hR.1 hb)) (fun d1 hd => ?_)
  obtain ⟨c1, f1, e1, e2, e3, e4, e5⟩ := hd
  refine r_gP hK 0 11 3 77 rfl (by decide) ?_
  refine rn_eq (k_between hK c1.spn (by omega) (by omega)) ?_
  have hgb := e4 b (by omega) (e5 b (by rw [bit_bt (by omega)]; simp))
  refine rn_ite (fun _ => ?_) (fun _ => ?_)
  · refine r_gP hK 0 11 3 77 rfl (by decide) ?_
    refine rn_bind (k_streetAt hN2 hK hR c1.spn c1.2.2.1.2.1 e3 ha hb hgb) (fun v _ => ?_)
    refine rn_bind (k_answer hK) (fun r hr => rn_some ?_)
    exact kr_lg c1 f1 hr
  · refine rn_bind (k_refuse hK) (fun r hr => rn_some ?_)
    exact kr_lg c1 f1 hr
end WW
/-! 71.street.lean.txt -/
/-! street() -/
section ST
variable {s s' : AS} {sh : Sh} {d d' : Dt} {z : Nat} {ow ow' : Nat → Nat} {R R' K : Nat → Int32} {u : Bool} {y : YL} {c N : Nat} {q q' : BL}
/-- behind ci_change: the books of now hold another R, rows may be new -/
theorem ci_new2 (h : CI s z ow R K true y c) (g1 : s.2.1 (z + 77) 5 = 0) (g2 : s.2.1 (z + 201) 4 = 0) (g3 : s.2.1 (z + 201) 7 = 0) (he : ES (IX z ow 3 39) s ow s' ow') (hb : BK s'.1 s'.2 z ow' 3 R' q') (hp : PB s.1 s.2 z ow R') (m1 : s'.1.1.2.2 + 2 * pot y.1 ≤ s.1.1.2.2 + 2 * pot q') (m2 : 4 * s'.1.1.2.1 + pot y.1 ≤ 4 * s.1.1.2.1 + pot q') : CI s' z ow' R' K true (q', y.2) c ∧ RFR z s s' := by
  obtain ⟨hK, hw, b1, b2, b3, b4, b5, b6, b7, b8, b9, b10, b11⟩ := h
  have r0 := es_row hK hw he (i := 0) (by decide) (by omega)
  have r77 := es_row hK hw he (i := 77) (by decide) (by omega)
  have r201 := es_row hK hw he (i := 201) (by decide) (by omega)
  refine ⟨⟨KS.es hK he, OWS.es hw hK he, hb, bk_ix b2 (Or.inr rfl) hK hw he (by omega), cs_ix b3 hK hw he (by omega), pb_ix hp hK hw he (by omega) (by omega), pb_ix b5 hK hw he (by omega) (by omega), Or.inl (by rw [r77.1]; exact g1), Or.inl (by rw [r201.1]; exact g2), Or.inl (by rw [r201.1]; exact g3), by rw [r0.1]; exact b9, ?_, ?_, tln_0 (by rw [r201.1]; exact g3)⟩, RFR.ix hK hw he (by omega)⟩
  · show s'.1.1.2.2 ≤ 75638 + 2 * (pot q' + pot y.2.1 + smN y.2.2.1 4 + y.2.2.2.1 + y.2.2.2.2) + 5 * c
    omega
  · have b11 := b11.1
    show 4 * s'.1.1.2.1 ≤ 4 * (z + 264) + (pot q' + pot y.2.1 + smN y.2.2.1 4 + 4 * y.2.2.2.1 + y.2.2.2.2) + 4 * c
    omega
/-- the books with other STREETS -/
theorem bk_S {b : Nat} {L' : Nat → Nat} (hR : WF R) (hb : bck b) (hK : KS s.1 z) (hw : OWS ow z) (h : BK s.1 s.2 z ow b R q) (he : ES (IX z ow (b + 1) (b + 2)) s ow s' ow') (ht : TB s'.1 s'.2 z ow' (b + 1) 9 (nn R' 1) (vS R') L') (hL : ∀ c, c < 9 → L' c ≤ 300) (e : ∀ k, k ≠ 1 → k < 16 ∨ 1366 ≤ k → R' k = R k) (ee : ∀ t k, t < nn R 1 → k = 7 ∨ k = 8 → R' (16 + 9 * t + k) = R (16 + 9 * t + k)) : BK s'.1 s'.2 z ow' b R' (L', q.2) := by
  obtain ⟨h0, h1, h2, h3, h4, h5, h6, h7⟩ := h
  have hwb := bck_w hb hw
  have hts := bck_t hb
  have hz := hK.2.1
  have en : ∀ k, k ≠ 1 → k < 16 ∨ 1366 ≤ k → nn R' k = nn R k := fun k a1 a2 => by unfold nn; rw [e k a1 a2]
  have r0 : s'.2.1 (z + b) = s.2.1 (z + b) := ((he.2.2 (z + b) (by omega)).2.2.2.2 (nix hwb.1 hwb.2 (by omega))).1
  refine ⟨?_, ht, ?_, ?_, ?_, ?_, ?_, ⟨hL, h7.2⟩⟩
  · rw [r0, e 0 (by omega) (by omega)]
    exact h0
  · rw [en 2 (by omega) (by omega)]
    exact tb_congr (tb_ix h2 hK hw hts.2.1 he (by omega)) (fun c' i' _ _ => e _ (by omega) (by omega))
  · rw [en 3 (by omega) (by omega)]
    refine tb_congr (tb_ix h3 hK hw hts.2.2.1 he (by omega)) (fun c' i' _ _ => ?_)
    unfold vP
    simp only [e (9426 + 13 * i' + 6) (by omega) (by omega), e (9426 + 13 * i' + 7) (by omega) (by omega), e (9426 + 13 * i' + 8) (by omega) (by omega), e (9426 + 13 * i' + 9) (by omega) (by omega), e (9426 + 13 * i' + 10) (by omega) (by omega), e (9426 + 13 * i' + 1) (by omega) (by omega), e (9426 + 13 * i' + 2) (by omega) (by omega), e (9426 + 13 * i') (by omega) (by omega), e (9426 + 13 * i' + 11) (by omega) (by omega), e (9426 + 13 * i' + 12) (by omega) (by omega)]
  · rw [en 4 (by omega) (by omega)]
    refine tb_congr (tb_ix h4 hK hw hts.2.2.2 he (by omega)) (fun c' i' _ hi' => ?_)
    obtain ⟨t, cc, w1, w2, -⟩ := hR.2.2.2.2.2 i' hi'
    have n1 := hR.1.2.1.2
    have ent : nn R (9642 + 3 * i') = t := by
      unfold nn
      rw [w2, nI_clamp (by omega)]
    unfold vD
    rw [en (9642 + 3 * i') (by omega) (by omega), ent, e (9642 + 3 * i') (by omega) (by omega), e (9642 + 3 * i' + 1) (by omega) (by omega), e (9642 + 3 * i' + 2) (by omega) (by omega), ee t 7 w1 (Or.inl rfl), ee t 8 w1 (Or.inr rfl)]
  · obtain ⟨a, z1, z2, z3, z4, z5, z6⟩ := ce_ix h5 hK hwb.1 hwb.2 he (by omega)
    refine ⟨a, z1, z2, z3, z4, z5, fun x hx => ?_⟩
    obtain ⟨g, hh, q1, q2, q3⟩ := hx
    rw [en 2 (by omega) (by omega)] at q1
    rw [en _ (by omega) (by omega)] at q2
    have r := z6 x ⟨g, hh, q1, q2, q3⟩
    refine ⟨r.1, r.2.trans ?_⟩
    unfold vC
    rw [e (5426 + x) (by omega) (by omega), e (1426 + x) (by omega) (by omega)]
  · rw [en 2 (by omega) (by omega)]
    exact h6
def stR (R : Nat → Int32) (a b l o : Int32) : Nat → Int32 := va_up (va_up (va_up (va_up (va_up (va_up (va_up (va_up (va_up (va_up (R) (16 + 9 * nn R 1 + 0) 0) (16 + 9 * nn R 1 + 1) 0) (16 + 9 * nn R 1 + 2) 0) (16 + 9 * nn R 1 + 3) 1) (16 + 9 * nn R 1 + 4) 0) (16 + 9 * nn R 1 + 5) o) (16 + 9 * nn R 1 + 6) l) (16 + 9 * nn R 1 + 7) a) (16 + 9 * nn R 1 + 8) b) 1 (nI (nn R 1 + 1))
theorem stR_1 {a b l o : Int32} : stR R a b l o 1 = nI (nn R 1 + 1) := va_up_s
theorem stR_n {a b l o : Int32} {k : Nat} (h1 : k ≠ 1) (h2 : k < 16 + 9 * nn R 1 ∨ 16 + 9 * nn R 1 + 9 ≤ k) : stR R a b l o k = R k := by
  unfold stR
  rw [va_up_n (by omega), va_up_n (by omega), va_up_n (by omega), va_up_n (by omega), va_up_n (by omega), va_up_n (by omega), va_up_n (by omega), va_up_n (by omega), va_up_n (by omega), va_up_n (by omega)]
theorem stR_0 {a b l o : Int32} : stR R a b l o (16 + 9 * nn R 1 + 0) = 0 := by
  unfold stR
  rw [va_up_n (by omega), va_up_n (by omega), va_up_n (by omega), va_up_n (by omega), va_up_n (by omega), va_up_n (by omega), va_up_n (by omega), va_up_n (by omega), va_up_n (by omega), va_up_s]
theorem stR_99 {a b l o : Int32} : stR R a b l o (16 + 9 * nn R 1 + 1) = 0 := by
  unfold stR
  rw [va_up_n (by omega), va_up_n (by omega), va_up_n (by omega), va_up_n (by omega), va_up_n (by omega), va_up_n (by omega), va_up_n (by omega), va_up_n (by omega), va_up_s]
theorem stR_2 {a b l o : Int32} : stR R a b l o (16 + 9 * nn R 1 + 2) = 0 := by
  unfold stR
  rw [va_up_n (by omega), va_up_n (by omega), va_up_n (by omega), va_up_n (by omega), va_up_n (by omega), va_up_n (by omega), va_up_n (by omega), va_up_s]
theorem stR_3 {a b l o : Int32} : stR R a b l o (16 + 9 * nn R 1 + 3) = 1 := by
  unfold stR
  rw [va_up_n (by omega), va_up_n (by omega), va_up_n (by omega), va_up_n (by omega), va_up_n (by omega), va_up_n (by omega), va_up_s]
theorem stR_4 {a b l o : Int32} : stR R a b l o (16 + 9 * nn R 1 + 4) = 0 := by
  unfold stR
  rw [va_up_n (by omega), va_up_n (by omega), va_up_n (by omega), va_up_n (by omega), va_up_n (by omega), va_up_s]
theorem stR_5 {a b l o : Int32} : stR R a b l o (16 + 9 * nn R 1 + 5) = o := by
  unfold stR
  rw [va_up_n (by omega), va_up_n (by omega), va_up_n (by omega), va_up_n (by omega), va_up_s]
theorem stR_6 {a b l o : Int32} : stR R a b l o (16 + 9 * nn R 1 + 6) = l := by
  unfold stR
  rw [va_up_n (by omega), va_up_n (by omega), va_up_n (by omega), va_up_s]
theorem stR_7 {a b l o : Int32} : stR R a b l o (16 + 9 * nn R 1 + 7) = a := by
  unfold stR
  rw [va_up_n (by omega), va_up_n (by omega), va_up_s]
theorem stR_8 {a b l o : Int32} : stR R a b l o (16 + 9 * nn R 1 + 8) = b := by
  unfold stR
  rw [va_up_n (by omega), va_up_s]
theorem stR_nn {a b l o : Int32} : nn (stR R a b l o) 1 = if nn R 1 + 1 < 2 ^ 31 then nn R 1 + 1 else nn (stR R a b l o) 1 := by
  split
  · unfold nn
    rw [stR_1, nI_clamp (by assumption)]
    rfl
  · rfl
theorem stR_n1 {a b l o : Int32} (hN : WN R) : nn (stR R a b l o) 1 = nn R 1 + 1 := by
  have n1 := hN.2.1.2
  rw [stR_nn, if_pos (by omega)]
def sp_street (R : Nat → Int32) (a b l w : Int32) : Int32 × Option (Nat → Int32) := if ((a < 0 ∨ nI (nn R 0) ≤ a) ∨ (b < 0 ∨ nI (nn R 0) ≤ b)) ∨ a = b ∨ (l < 1 ∨ 10000 < l) then (-2, none) else if nn R 1 = 150 then (-3, none) else (nI (nn R 1), some (stR R a b l (if w = 0 then 0 else 1)))
theorem m_street {a b l w : Int32} (hNf : 15642 < N) (hK : KS sh z) (h : RI d z R K u) (hR : WF R) : Rn (f_X12_street N sh (z + 242) a b l w d) (RO z R K u (sp_street R a b l w) d) := by
  have n1 := hR.1.2.1
  have bad : ((a < 0 ∨ nI (nn R 0) ≤ a) ∨ (b < 0 ∨ nI (nn R 0) ≤ b)) ∨ a = b ∨ (l < 1 ∨ 10000 < l) → Rn (f_X12_street_32 N sh (z + 242) d) (RO z R K u (sp_street R a b l w) d) := fun hb => by
    rw [show sp_street R a b l w = _ from if_pos hb]
    exact ro_refuses hK h rfl
  unfold f_X12_street
  refine rn_t (ks_o hK 242 12 rfl) ?_
  refine rn_eq (ri_isCrossing hK h hR.1) ?_
  refine rn_ite (fun h1 => bad (Or.inl (Or.inl (ite01.mp h1)))) (fun h1 => ?_)
  refine rn_eq (ri_isCrossing hK h hR.1) ?_
  refine rn_ite (fun h2 => bad (Or.inl (Or.inr (ite01.mp h2)))) (fun h2 => ?_)
  refine rn_ite (fun h3 => bad (Or.inr (Or.inl h3))) (fun h3 => ?_)
  refine rn_eq m_in ?_
  refine rn_ite (fun h4 => ?_) (fun h4 => bad (Or.inr (Or.inr (ite01.mp (Decidable.of_not_not h4)))))
  have good : ¬ (((a < 0 ∨ nI (nn R 0) ≤ a) ∨ (b < 0 ∨ nI (nn R 0) ≤ b)) ∨ a = b ∨ (l < 1 ∨ 10000 < l)) := fun q => q.elim (fun q => q.elim (fun q => h1 (ite01.mpr q)) (fun q => h2 (ite01.mpr q))) (fun q => q.elim h3 (fun q => h4 (ite01.mpr q)))
  rw [show sp_street R a b l w = _ from if_neg good]
  refine rdg hK h.1 1 rfl (by decide) ?_
  rw [n1.1]
  refine rn_ite (fun h5 => ?_) (fun h5 => ?_)
  · have h6 : nn R 1 ≠ 150 := fun e => h5 (by rw [e]; rfl)
    rw [if_neg h6]
    refine rn_bind (ri_keeps h hK hNf) (fun d1 hd => ?_)
    obtain ⟨x1, x2⟩ := hd
    refine r_pI hK (i := 242) (c := 12) rfl ?_
    obtain ⟨y0, z0⟩ := ri_unreck x1
    have ha := ks_a hK 243 0 15642 rfl
    refine rdg hK y0.1 1 rfl (by decide) ?_
    rw [n1.1]
    refine rn_eq (m_st hK) ?_
    refine r_gP hK 242 12 0 243 rfl (by decide) ?_
    refine rn_eq (q_sI ha (16 + 9 * nn R 1 + 0) (ix_st (nn R 1) 0) (by omega) (by decide)) ?_
    obtain ⟨y1, z1⟩ := ri_cell (j := 16 + 9 * nn R 1 + 0) (v := 0) y0 z0
    refine r_gP hK 242 12 0 243 rfl (by decide) ?_
    refine rn_eq (q_sI ha (16 + 9 * nn R 1 + 1) (ix_st (nn R 1) 1) (by omega) (by decide)) ?_
    obtain ⟨y2, z2⟩ := ri_cell (j := 16 + 9 * nn R 1 + 1) (v := 0) y1 z1
    refine r_gP hK 242 12 0 243 rfl (by decide) ?_
    refine rn_eq (q_sI ha (16 + 9 * nn R 1 + 2) (ix_st (nn R 1) 2) (by omega) (by decide)) ?_
    obtain ⟨y3, z3⟩ := ri_cell (j := 16 + 9 * nn R 1 + 2) (v := 0) y2 z2
    refine r_gP hK 242 12 0 243 rfl (by decide) ?_
    refine rn_eq (q_sI ha (16 + 9 * nn R 1 + 3) (ix_st (nn R 1) 3) (by omega) (by decide)) ?_
    obtain ⟨y4, z4⟩ := ri_cell (j := 16 + 9 * nn R 1 + 3) (v := 1) y3 z3
    refine r_gP hK 242 12 0 243 rfl (by decide) ?_
    refine rn_eq (q_sI ha (16 + 9 * nn R 1 + 4) (ix_st (nn R 1) 4) (by omega) (by decide)) ?_
    obtain ⟨y5, z5⟩ := ri_cell (j := 16 + 9 * nn R 1 + 4) (v := 0) y4 z4
    refine r_gP hK 242 12 0 243 rfl (by decide) ?_
    have fin : ∀ o : Int32, Rn (f_X12_street_147 N sh (z + 242) a b l ((16 : Int32) + (9 : Int32) * nI (nn R 1)) (z + 243) ((16 : Int32) + (9 : Int32) * nI (nn R 1) + 5) o _) (RO z R K u (nI (nn R 1), some (stR R a b l o)) d) := fun o => by
      unfold f_X12_street_147
      refine rn_eq (q_sI ha (16 + 9 * nn R 1 + 5) (ix_st (nn R 1) 5) (by omega) (by decide)) ?_
      obtain ⟨y6, z6⟩ := ri_cell (j := 16 + 9 * nn R 1 + 5) (v := o) y5 z5
      refine r_gP hK 242 12 0 243 rfl (by decide) ?_
      refine rn_eq (q_sI ha (16 + 9 * nn R 1 + 6) (ix_st (nn R 1) 6) (by omega) (by decide)) ?_
      obtain ⟨y7, z7⟩ := ri_cell (j := 16 + 9 * nn R 1 + 6) (v := l) y6 z6
      refine r_gP hK 242 12 0 243 rfl (by decide) ?_
      refine rn_eq (q_sI ha (16 + 9 * nn R 1 + 7) (ix_st (nn R 1) 7) (by omega) (by decide)) ?_
      obtain ⟨y8, z8⟩ := ri_cell (j := 16 + 9 * nn R 1 + 7) (v := a) y7 z7
      refine r_gP hK 242 12 0 243 rfl (by decide) ?_
      refine rn_eq (q_sI ha (16 + 9 * nn R 1 + 8) (ix_st (nn R 1) 8) (by omega) (by decide)) ?_
      obtain ⟨y9, z9⟩ := ri_cell (j := 16 + 9 * nn R 1 + 8) (v := b) y8 z8
      refine r_gP hK 242 12 0 243 rfl (by decide) ?_
      refine rn_eq (q_aT ha 1 rfl (by decide) (by decide)) ?_
      rw [y9.1 1 (by decide), va_up_n (by omega), va_up_n (by omega), va_up_n (by omega), va_up_n (by omega), va_up_n (by omega), va_up_n (by omega), va_up_n (by omega), va_up_n (by omega), va_up_n (by omega), n1.1, nI_1]
      refine rn_eq (q_sI ha 1 rfl (by decide) (by decide)) ?_
      obtain ⟨y10, z10⟩ := ri_cell (j := 1) (v := nI (nn R 1 + 1)) y9 z9
      refine rdg hK y10.1 1 rfl (by decide) ?_
      rw [va_up_s, nI_pred]
      exact ro_done hK y10 (x2.tr ((MFR.wI (by decide) (by decide)).tr ((MFR.wI (by decide) (by decide)).tr ((MFR.wI (by decide) (by decide)).tr ((MFR.wI (by decide) (by decide)).tr ((MFR.wI (by decide) (by decide)).tr ((MFR.wI (by decide) (by decide)).tr ((MFR.wI (by decide) (by decide)).tr ((MFR.wI (by decide) (by decide)).tr ((MFR.wI (by decide) (by decide)).tr ((MFR.wI (by decide) (by decide)).tr (MFR.wI (by decide) (by decide))))))))))))) rfl
    refine rn_ite (fun h7 => ?_) (fun h7 => ?_)
    · rw [if_pos h7]
      exact fin 0
    · rw [if_neg h7]
      exact fin 1
  · have h6 : nn R 1 = 150 := nI_inj (b := 150) (Decidable.of_not_not h5) (by omega) (by decide)
    rw [if_pos h6]
    exact ro_refuses hK h rfl
end ST
/-! 72.street2.lean.txt -/
section ST2
variable {s s' : AS} {sh : Sh} {d d' : Dt} {z : Nat} {ow ow' : Nat → Nat} {R R' K : Nat → Int32} {u : Bool} {y : YL} {c N : Nat} {q q' : BL}
theorem es_fd {lo hi : Nat} (he : ES (IX z ow lo hi) s ow s' ow') (hd : FD (IX z ow' lo hi) s'.2 d') : ES (IX z ow lo hi) s ow (s'.1, d') ow' := he.tr (FD.es (sh := s'.1) (d := s'.2) hd) (fun a ha h => ix_old he ha h)
theorem smN_pot {L' : Nat → Nat} {q : BL} : pot (L', q.2) + smN q.1 9 = pot q + smN L' 9 := by
  unfold pot
  show smN L' 9 + smN q.2.1 3 + smN q.2.2.1 9 + smN q.2.2.2.1 4 + q.2.2.2.2 + smN q.1 9 = _
  omega
theorem r_now {β : Type} {Q : β → Prop} {g : Nat → Option β} (hK : KS sh z) (k v : Nat) (hv : (3, k, v) ∈ cPt) (kk : Rn (g (z + v)) Q) : Rn ((gP sh z 11 1).bind fun v1 => (gP sh v1 1 k).bind g) Q := by
  rw [← z0 (z := z)]
  refine r_gP hK 0 11 1 3 rfl (by decide) ?_
  exact r_gP hK 3 1 k v rfl hv kk
theorem l_le {l : Int32} : l ≤ 10000 ↔ ¬ 10000 < l := ⟨fun h q => Int32.not_le.mpr q h, fun h => Int32.not_lt.mp h⟩
theorem k_street {a b l w : Int32} (hNf : 30 ≤ N) (h : CI s z ow R K u y c) (hR : WF R) (hKF : WF K) : Rn (f_X11_street N z a b l w s) (KO z R K u c (sp_street R a b l w) s) := by
  have hK := h.1
  have n0 := hR.1.1.2
  have n1 := hR.1.2.1.2
  have ht4 : tck 4 9 = true := by decide
  have hB : BK s.1 s.2 z ow 3 R y.1 := h.2.2.1
  have bad : ((a < 0 ∨ nI (nn R 0) ≤ a) ∨ (b < 0 ∨ nI (nn R 0) ≤ b)) ∨ a = b ∨ (l < 1 ∨ 10000 < l) → Rn (f_X11_street_39 N z s) (KO z R K u c (sp_street R a b l w) s) := fun hb => by
    rw [show sp_street R a b l w = _ from if_pos hb]
    unfold f_X11_street_39
    refine rn_bind (k_refuse hK) (fun r hr => rn_some ?_)
    exact ko_lg h hr rfl
  unfold f_X11_street
  refine rn_t (ks_o hK 0 11 rfl) ?_
  refine r_gP hK 0 11 1 3 rfl (by decide) ?_
  refine rn_eq (k_hasCrossing hK hB.1 hR.1) ?_
  refine rn_ite (fun h1 => bad (Or.inl (Or.inl (ite01.mp h1)))) (fun h1 => ?_)
  refine r_gP hK 0 11 1 3 rfl (by decide) ?_
  refine rn_eq (k_hasCrossing hK hB.1 hR.1) ?_
  refine rn_ite (fun h2 => bad (Or.inl (Or.inr (ite01.mp h2)))) (fun h2 => ?_)
  refine rn_ite (fun h3 => bad (Or.inr (Or.inl h3))) (fun h3 => ?_)
  refine rn_ite (fun h4 => bad (Or.inr (Or.inr (Or.inl h4)))) (fun h4 => ?_)
  refine rn_ite (fun h5 => ?_) (fun h5 => bad (Or.inr (Or.inr (Or.inr (Decidable.of_not_not (fun r => h5 (l_le.mpr r)))))))
  have good : ¬ (((a < 0 ∨ nI (nn R 0) ≤ a) ∨ (b < 0 ∨ nI (nn R 0) ≤ b)) ∨ a = b ∨ (l < 1 ∨ 10000 < l)) := fun q => q.elim (fun q => q.elim (fun q => h1 (ite01.mpr q)) (fun q => h2 (ite01.mpr q))) (fun q => q.elim h3 (fun q => q.elim h4 (l_le.mp h5)))
  rw [show sp_street R a b l w = _ from if_neg good]
  refine r_now hK 1 4 (by decide) ?_
  refine r_gI hK (i := 4) (c := 8) rfl ?_
  rw [hB.2.1.1]
  refine rn_ite (fun h6 => ?_) (fun h6 => ?_)
  · have h7 : nn R 1 < 150 := (nI_ltI (b := 150) (by omega) (by decide)).mp h6
    rw [if_neg (by omega)]
    refine rn_bind (ci_change hNf h hR.1 hR.2.1 hKF.1) (fun s1 hs => ?_)
    obtain ⟨f1, g1, g2, g3, ow1, y1, -, c1⟩ := hs
    have hK1 := c1.1
    have hw1 := c1.2.1
    have hB1 : BK s1.1 s1.2 z ow1 3 R y1.1 := c1.2.2.1
    unfold f_X11_street_73
    refine r_now hK1 1 4 (by decide) ?_
    refine rn_bind (tb_add (s := s1) (by omega) ht4 (by omega) hK1 hw1 hB1.2.1) (fun r hr => ?_)
    obtain ⟨r1, ow2, L2, e2, t2, l2, p1, p2⟩ := hr
    rw [r1]
    have e2 : ES (IX z ow1 4 5) s1 ow1 r.2 ow2 := e2.mono (fun a _ ha => tx_ix ht4 hw1 ha)
    have hK2 : KS r.2.1 z := KS.es hK1 e2
    have hw2 : OWS ow2 z := OWS.es hw1 hK1 e2
    have mo : ∀ {d1 d2 : Dt}, FD (TX z ow2 4) d1 d2 → FD (IX z ow2 4 5) d1 d2 := fun h => h.mono (fun a ha => tx_ix ht4 hw2 ha)
    unfold f_X11_street_83
    refine r_now hK2 1 4 (by decide) ?_
    refine rn_bind (tb_put (o := 4) (nc := 9) (c := 3) hK2 hw2 ht4 t2 rfl (Nat.lt_succ_self _) rfl (by decide)) (fun d3 hd3 => ?_)
    refine r_now hK2 1 4 (by decide) ?_
    have fin : ∀ o : Int32, Rn (f_X11_street_119 N z a b l (nI (nn R 1)) (z + 4) (nI (nn R 1)) (5 : Int32) o (r.2.1, d3)) (KO z R K u c (nI (nn R 1), some (stR R a b l o)) s) := fun o => by
      unfold f_X11_street_119
      refine rn_bind (tb_put (o := 4) (nc := 9) (c := 5) hK2 hw2 ht4 hd3.1 rfl (Nat.lt_succ_self _) rfl (by decide)) (fun d5 hd5 => ?_)
      refine r_now hK2 1 4 (by decide) ?_
      refine rn_bind (tb_put (o := 4) (nc := 9) (c := 6) hK2 hw2 ht4 hd5.1 rfl (Nat.lt_succ_self _) rfl (by decide)) (fun d6 hd6 => ?_)
      refine r_now hK2 1 4 (by decide) ?_
      refine rn_bind (tb_put (o := 4) (nc := 9) (c := 7) hK2 hw2 ht4 hd6.1 rfl (Nat.lt_succ_self _) rfl (by decide)) (fun d7 hd7 => ?_)
      refine r_now hK2 1 4 (by decide) ?_
      refine rn_bind (tb_put (o := 4) (nc := 9) (c := 8) hK2 hw2 ht4 hd7.1 rfl (Nat.lt_succ_self _) rfl (by decide)) (fun d8 hd8 => ?_)
      refine rn_bind (k_answer hK2) (fun r9 hr9 => rn_some ?_)
      have ee : ES (IX z ow1 4 5) s1 ow1 (r.2.1, d8) ow2 := es_fd e2 ((((mo hd3.2).tr (mo hd5.2)).tr (mo hd6.2)).tr ((mo hd7.2).tr (mo hd8.2)))
      have hT : TB r.2.1 d8 z ow2 4 9 (nn (stR R a b l o) 1) (vS (stR R a b l o)) L2 := by
        rw [stR_n1 hR.1]
        refine tb_congr hd8.1 (fun c' i' hc' hi' => ?_)
        show stR R a b l o (16 + 9 * i' + c') = _
        by_cases ei : i' = nn R 1
        · subst ei
          have hc9 : c' = 0 ∨ c' = 1 ∨ c' = 2 ∨ c' = 3 ∨ c' = 4 ∨ c' = 5 ∨ c' = 6 ∨ c' = 7 ∨ c' = 8 := by omega
          rcases hc9 with rfl | rfl | rfl | rfl | rfl | rfl | rfl | rfl | rfl
          · rw [stR_0]
            simp
          · rw [stR_99]
            simp
          · rw [stR_2]
            simp
          · rw [stR_3]
            simp
          · rw [stR_4]
            simp
          · rw [stR_5]
            simp
          · rw [stR_6]
            simp
          · rw [stR_7]
            simp
          · rw [stR_8]
            simp
        · rw [stR_n (by omega) (by omega)]
          simp [ei]
          rfl
      have hbk : BK r.2.1 d8 z ow2 3 (stR R a b l o) (L2, y1.1.2) := by
        refine bk_S (s := s1) (s' := (r.2.1, d8)) hR (Or.inl rfl) hK1 hw1 hB1 ee hT (fun c9 hc9 => ?_) (fun k k1 k2 => stR_n k1 (by omega)) (fun t k ht hk => stR_n (by omega) (by omega))
        have := l2 c9 hc9
        have := hB1.2.2.2.2.2.2.2.1 c9 hc9
        omega
      have sp := smN_pot (L' := L2) (q := y1.1)
      have qn := ci_new2 c1 g1 g2 g3 (ee.mono (fun a _ ha => ix_mono ha (by omega) (by omega))) hbk (pb_congr c1.2.2.2.2.2.1 (stR_n (by omega) (by omega)) (fun j hj => stR_n (by omega) (by omega))) (by
        show r.2.1.1.2.2 + 2 * pot y1.1 ≤ s1.1.1.2.2 + 2 * pot (L2, y1.1.2)
        omega) (by
        show 4 * r.2.1.1.2.1 + pot y1.1 ≤ 4 * s1.1.1.2.1 + pot (L2, y1.1.2)
        omega)
      have q2 := ci_lg (s := (r.2.1, d8)) qn.1 hr9.2
      exact ⟨hr9.1, (f1.tr qn.2).tr q2.2, ow2, _, q2.1⟩
    refine rn_ite (fun h8 => ?_) (fun h8 => ?_)
    · rw [if_pos h8]
      exact fin 0
    · rw [if_neg h8]
      exact fin 1
  · have h7 : nn R 1 = 150 := by
      have : ¬ nn R 1 < 150 := fun q => h6 ((nI_ltI (b := 150) (by omega) (by decide)).mpr q)
      omega
    rw [if_pos h7]
    refine rn_bind (k_refuse hK) (fun r hr => rn_some ?_)
    exact ko_lg h hr rfl
end ST2
/-! 73.reach.lean.txt -/
/-! what can be come to along STREETS with TIMES above 0 -/
def eA (R : Nat → Int32) (s : Nat) : Nat := nn R (16 + 9 * s + 7)
def eB (R : Nat → Int32) (s : Nat) : Nat := nn R (16 + 9 * s + 8)
def adj (R : Nat → Int32) (T : Nat → Nat) (u v : Nat) : Prop := ∃ s, s < nn R 1 ∧ 0 < T s ∧ ((eA R s = u ∧ eB R s = v) ∨ (eA R s = v ∧ eB R s = u))
def rchN (R : Nat → Int32) (T : Nat → Nat) : Nat → Nat → Nat → Prop
  | 0, u, v => u = v
  | k + 1, u, v => ∃ w, adj R T u w ∧ rchN R T k w v
def rch (R : Nat → Int32) (T : Nat → Nat) (u v : Nat) : Prop := ∃ k, rchN R T k u v
/-- all that is left can be come to from c -/
def conn (R : Nat → Int32) (T : Nat → Nat) (c : Nat) : Prop := ∀ s, s < nn R 1 → 0 < T s → rch R T c (eA R s)
section RC
variable {β : Type} {Q : Dt → Prop} {sh : Sh} {d d0 d' : Dt} {z : Nat} {R K : Nat → Int32} {N c : Nat} {T C : Nat → Nat}
theorem ws_e {s : Nat} (hW : WS R) (hN : WN R) (hs : s < nn R 1) : R (16 + 9 * s + 7) = nI (eA R s) ∧ eA R s < nn R 0 ∧ R (16 + 9 * s + 8) = nI (eB R s) ∧ eB R s < nn R 0 ∧ eA R s ≠ eB R s := by
  have n0 := hN.1.2
  obtain ⟨⟨ea, eb, ea2, eb2, hne, e7, e8⟩, -⟩ := hW s hs
  have q1 : eA R s = ea := by
    unfold eA nn
    rw [e7, nI_clamp (by omega)]
  have q2 : eB R s = eb := by
    unfold eB nn
    rw [e8, nI_clamp (by omega)]
  rw [q1, q2]
  exact ⟨e7, ea2, e8, eb2, hne⟩
theorem adj_sy {u v : Nat} (h : adj R T u v) : adj R T v u := by
  obtain ⟨s, h1, h2, h3⟩ := h
  exact ⟨s, h1, h2, h3.symm⟩
theorem rch_rf {u : Nat} : rch R T u u := ⟨0, rfl⟩
theorem rchN_snoc : ∀ (k u v w : Nat), rchN R T k u v → adj R T v w → rchN R T (k + 1) u w
  | 0, u, v, w, h, ha => by
    have h : u = v := h
    subst h
    exact ⟨w, ha, rfl⟩
  | k + 1, u, v, w, h, ha => by
    obtain ⟨x, h1, h2⟩ := h
    exact ⟨x, h1, rchN_snoc k x v w h2 ha⟩
theorem rch_step {u v w : Nat} (h : rch R T u v) (ha : adj R T v w) : rch R T u w := by
  obtain ⟨k, hk⟩ := h
  exact ⟨k + 1, rchN_snoc k u v w hk ha⟩
theorem rchN_cl {P : Nat → Prop} (hP : ∀ u v, adj R T u v → P u → P v) : ∀ (k u v : Nat), rchN R T k u v → P u → P v
  | 0, u, v, h, hu => by
    have h : u = v := h
    rw [← h]
    exact hu
  | k + 1, u, v, h, hu => by
    obtain ⟨x, h1, h2⟩ := h
    exact rchN_cl hP k x v h2 (hP u x h1 hu)
theorem rch_cl {P : Nat → Prop} {u v : Nat} (hP : ∀ u v, adj R T u v → P u → P v) (h : rch R T u v) (hu : P u) : P v := by
  obtain ⟨k, hk⟩ := h
  exact rchN_cl hP k u v hk hu
theorem rch_tr {u v w : Nat} (h1 : rch R T u v) (h2 : rch R T v w) : rch R T u w := rch_cl (P := fun x => rch R T u x) (fun a b ha hu => rch_step hu ha) h2 h1
theorem adj_lt {u v : Nat} (hW : WS R) (hN : WN R) (h : adj R T u v) : u < nn R 0 ∧ v < nn R 0 := by
  obtain ⟨s, h1, h2, h3⟩ := h
  obtain ⟨-, q1, -, q2, -⟩ := ws_e hW hN h1
  omega
theorem rch_lt {u v : Nat} (hW : WS R) (hN : WN R) (h : rch R T u v) (hu : u < nn R 0) : v < nn R 0 := rch_cl (P := fun x => x < nn R 0) (fun a b ha _ => (adj_lt hW hN ha).2) h hu
theorem adj_mono {T' : Nat → Nat} {u v : Nat} (hT : ∀ s, s < nn R 1 → 0 < T s → 0 < T' s) (h : adj R T u v) : adj R T' u v := by
  obtain ⟨s, h1, h2, h3⟩ := h
  exact ⟨s, h1, hT s h1 h2, h3⟩
theorem rch_mono {T' : Nat → Nat} {u v : Nat} (hT : ∀ s, s < nn R 1 → 0 < T s → 0 < T' s) (h : rch R T u v) : rch R T' u v := rch_cl (P := fun x => rch R T' u x) (fun a b ha hu => rch_step hu (adj_mono hT ha)) h rch_rf
/-- TIMES of the reference -/
def TM (z : Nat) (R : Nat → Int32) (d : Dt) (T : Nat → Nat) : Prop := ∀ s, s < nn R 1 → d.1 (z + 251) s = nI (T s) ∧ T s < 2 ^ 30
def CX2 (d : Dt) (z : Nat) (C : Nat → Nat) : Prop := ∀ v, v < 60 → d.1 (z + 253) v = nI (C v) ∧ C v ≤ 1
/-- only what was come to is touched -/
def CF (z : Nat) (d d' : Dt) : Prop := d'.2 = d.2 ∧ ∀ a, a ≠ z + 253 → d'.1 a = d.1 a
theorem CF.rf : CF z d d := ⟨rfl, fun _ _ => rfl⟩
theorem CF.tr {d1 d2 : Dt} (h1 : CF z d d1) (h2 : CF z d1 d2) : CF z d d2 := ⟨h2.1.trans h1.1, fun a q => (h2.2 a q).trans (h1.2 a q)⟩
theorem CF.w {k : Nat} {v : Int32} : CF z d (wI d (z + 253) k v) := ⟨rfl, fun a q => wI_n q⟩
theorem CF.ag (h : CF z d d') (hA : AG (d.1 (z + 243)) R) : AG (d'.1 (z + 243)) R := by
  rw [h.2 (z + 243) (by omega)]
  exact hA
theorem CF.tm (h : CF z d d') (hT : TM z R d T) : TM z R d' T := fun s hs => by
  rw [h.2 (z + 251) (by omega)]
  exact hT s hs
theorem CF.mfr (h : CF z d d') : MFR z d d' := ⟨by rw [h.1], by rw [h.1], fun a q => ⟨h.2 a (by omega), by rw [h.1]⟩⟩
theorem nar_b : vp_nar .boolean (1 : Int32) = 1 ∧ vp_nar .boolean (0 : Int32) = 0 := by decide
theorem cx_up {v : Nat} (h : CX2 d z C) (hv : v < 60) : CX2 (wI d (z + 253) v (vp_nar .boolean 1)) z (va_up C v 1) := fun x hx => by
  rw [nar_b.1, wI_s]
  by_cases e : x = v
  · rw [e, va_up_s, va_up_s]
    exact ⟨rfl, Nat.le_refl _⟩
  · rw [va_up_n e, va_up_n e]
    exact h x hx
/-- the STREETS below i join only what is alike -/
def CLO (R : Nat → Int32) (T C : Nat → Nat) (i : Nat) : Prop := ∀ s, s < i → 0 < T s → C (eA R s) = C (eB R s)
theorem foll_pass {k32 : Nat → Nat → Int32 → Dt → Option Dt} {C0 : Nat → Nat} (hK : KS sh z) (hN : WN R) (hW : WS R) (hA : AG (d0.1 (z + 243)) R) (hT : TM z R d0 T)
    (hk : ∀ (v : Int32) (d' : Dt) (C' : Nat → Nat), CX2 d' z C' → CF z d0 d' → (∀ x, x < 60 → C' x = 1 → rch R T c x) → C' c = 1 → ((v = 0 ∧ smN C' 60 = smN C0 60 ∧ CLO R T C' (nn R 1)) ∨ (v = 1 ∧ smN C0 60 < smN C' 60)) → Rn (k32 (z + 242) (z + 251) v d') Q) :
    ∀ (m i fu : Nat) (d : Dt) (C : Nat → Nat) (v : Int32), i + m = nn R 1 → m < fu → CX2 d z C → CF z d0 d → (∀ x, x < 60 → C x = 1 → rch R T c x) → C c = 1 → ((v = 0 ∧ smN C 60 = smN C0 60 ∧ CLO R T C i) ∨ (v = 1 ∧ smN C0 60 < smN C 60)) → Rn (f_X12_follows_41 N sh k32 fu (z + 242) (z + 251) v (nI i) d) Q
  | 0, i, fu, d, C, v, hi, hf, hX, hM, hr, hc, hv => by
    obtain ⟨fu, rfl⟩ : ∃ q, fu = q + 1 := ⟨fu - 1, by omega⟩
    show Rn (g_X12_follows_41 N sh k32 (f_X12_follows_41 N sh k32 fu) (z + 242) (z + 251) v (nI i) d) Q
    have n1 := hN.2.1
    unfold g_X12_follows_41
    refine rdg hK (hM.ag hA) 1 rfl (by decide) ?_
    rw [n1.1]
    have e : i = nn R 1 := by omega
    subst e
    refine rn_t ((nI_leI (by omega) (by omega)).mpr (Nat.le_refl _)) ?_
    exact hk v d C hX hM hr hc hv
  | m + 1, i, fu, d, C, v, hi, hf, hX, hM, hr, hc, hv => by
    obtain ⟨fu, rfl⟩ : ∃ q, fu = q + 1 := ⟨fu - 1, by omega⟩
    have ih := foll_pass hK hN hW hA hT hk m (i + 1) fu
    show Rn (g_X12_follows_41 N sh k32 (f_X12_follows_41 N sh k32 fu) (z + 242) (z + 251) v (nI i) d) Q
    have n0 := hN.1.2
    have n1 := hN.2.1
    have his : i < nn R 1 := by omega
    have hAd := hM.ag hA
    obtain ⟨e7, a2, e8, b2, hne⟩ := ws_e hW hN his
    have hC := ks_a hK 253 4 60 rfl
    unfold g_X12_follows_41
    refine rdg hK hAd 1 rfl (by decide) ?_
    rw [n1.1]
    refine rn_f (nI_ge his (by omega)) ?_
    refine rds hK hAd 7 (by omega) (by decide) rfl ?_
    refine rds hK hAd 8 (by omega) (by decide) rfl ?_
    refine rn_eq (q_aT (ks_a hK 251 0 150 rfl) i rfl (by omega) (by decide)) ?_
    obtain ⟨ht, ht2⟩ := hM.tm hT i his
    rw [ht, e7, e8]
    unfold f_X12_follows_126
    rw [nI_1]
    refine rn_ite (fun h1 => ?_) (fun h1 => ?_)
    · have h1 : T i = 0 := by
        rcases Nat.eq_zero_or_pos (T i) with q | q
        · exact q
        · exact absurd h1 (nI_nle q (by omega))
      refine ih d C v (by omega) (by omega) hX hM hr hc ?_
      rcases hv with hv | hv
      · refine Or.inl ⟨hv.1, hv.2.1, fun s hs hp => ?_⟩
        by_cases e : s = i
        · rw [e, h1] at hp
          omega
        · exact hv.2.2 s (by omega) hp
      · exact Or.inr hv
    · have h1 : 0 < T i := by
        rcases Nat.eq_zero_or_pos (T i) with q | q
        · rw [q] at h1
          exact absurd (by decide) h1
        · exact q
      refine r_gP hK 242 12 17 253 rfl (by decide) ?_
      refine rn_eq (q_aT hC (eA R i) rfl (by omega) (by decide)) ?_
      refine r_gP hK 242 12 17 253 rfl (by decide) ?_
      refine rn_eq (q_aT hC (eB R i) rfl (by omega) (by decide)) ?_
      obtain ⟨xa, xa2⟩ := hX (eA R i) (by omega)
      obtain ⟨xb, xb2⟩ := hX (eB R i) (by omega)
      rw [xa, xb]
      refine rn_ite (fun h2 => ?_) (fun h2 => ?_)
      · have h2 := nI_inj h2 (by omega) (by omega)
        refine ih d C v (by omega) (by omega) hX hM hr hc ?_
        rcases hv with hv | hv
        · refine Or.inl ⟨hv.1, hv.2.1, fun s hs hp => ?_⟩
          by_cases e : s = i
          · rw [e]
            exact h2
          · exact hv.2.2 s (by omega) hp
        · exact Or.inr hv
      · have h2 : C (eA R i) ≠ C (eB R i) := fun e => h2 (by rw [e])
        refine r_gP hK 242 12 17 253 rfl (by decide) ?_
        refine rn_eq (q_sZ hC (eA R i) rfl (by omega) (by decide)) ?_
        refine r_gP hK 242 12 17 253 rfl (by decide) ?_
        refine rn_eq (q_sZ hC (eB R i) rfl (by omega) (by decide)) ?_
        have hX1 := cx_up (cx_up hX (v := eA R i) (by omega)) (v := eB R i) (by omega)
        have ad : adj R T (eA R i) (eB R i) := ⟨i, his, h1, Or.inl ⟨rfl, rfl⟩⟩
        have hab : rch R T c (eA R i) ∧ rch R T c (eB R i) := by
          rcases Nat.lt_or_ge (C (eA R i)) 1 with q | q
          · have : C (eB R i) = 1 := by omega
            have r := hr (eB R i) (by omega) this
            exact ⟨rch_step r (adj_sy ad), r⟩
          · have : C (eA R i) = 1 := by omega
            have r := hr (eA R i) (by omega) this
            exact ⟨r, rch_step r ad⟩
        have s1 := smN_up (f := C) (c := eA R i) (v := 1) 60 (by omega)
        have s2 := smN_up (f := va_up C (eA R i) 1) (c := eB R i) (v := 1) 60 (by omega)
        rw [va_up_n (fun e => hne e.symm)] at s2
        refine ih _ _ 1 (by omega) (by omega) hX1 (hM.tr (CF.w.tr CF.w)) (fun x hx h => ?_) ?_ (Or.inr ⟨rfl, ?_⟩)
        · by_cases q1 : x = eB R i
          · rw [q1]
            exact hab.2
          · rw [va_up_n q1] at h
            by_cases q2 : x = eA R i
            · rw [q2]
              exact hab.1
            · rw [va_up_n q2] at h
              exact hr x hx h
        · by_cases q1 : c = eB R i
          · rw [q1, va_up_s]
          · rw [va_up_n q1]
            by_cases q2 : c = eA R i
            · rw [q2, va_up_s]
            · rw [va_up_n q2]
              exact hc
        · rcases hv with hv | hv <;> omega
theorem foll_while (hN1 : 151 ≤ N) (hK : KS sh z) (hN : WN R) (hW : WS R) (hA : AG (d0.1 (z + 243)) R) (hT : TM z R d0 T) (hk : ∀ (d' : Dt) (C' : Nat → Nat), CX2 d' z C' → CF z d0 d' → (∀ x, x < 60 → C' x = 1 → rch R T c x) → C' c = 1 → CLO R T C' (nn R 1) → Q d') : ∀ (B fu : Nat) (d : Dt) (C : Nat → Nat) (v : Int32), 60 + (if v = 0 then 0 else 1) < B + smN C 60 → B ≤ fu → smN C 60 ≤ 60 → CX2 d z C → CF z d0 d → (∀ x, x < 60 → C x = 1 → rch R T c x) → C c = 1 → ((v = 0 ∧ CLO R T C (nn R 1)) ∨ v = 1) → Rn (f_X12_follows_32 N sh fu (z + 242) (z + 251) v d) Q
  | 0, fu, d, C, v, h1, h2, h3, hX, hM, hr, hc, hv => by omega
  | B + 1, fu, d, C, v, h1, h2, h3, hX, hM, hr, hc, hv => by
    obtain ⟨fu, rfl⟩ : ∃ q, fu = q + 1 := ⟨fu - 1, by omega⟩
    show Rn (g_X12_follows_32 N sh (f_X12_follows_32 N sh fu) (z + 242) (z + 251) v d) Q
    have n1 := hN.2.1.2
    unfold g_X12_follows_32
    rcases hv with hv | hv
    · refine rn_t hv.1 ?_
      exact rn_some (hk d C hX hM hr hc hv.2)
    · subst hv
      refine rn_f (by decide) ?_
      rw [if_neg (by decide)] at h1
      refine foll_pass (C0 := C) hK hN hW hA hT (fun v d' C' X' M' r' c' q => ?_) (nn R 1) 0 N d C 0 (by omega) (by omega) hX hM hr hc (Or.inl ⟨rfl, rfl, fun s hs => absurd hs (Nat.not_lt_zero s)⟩)
      have h3' : smN C' 60 ≤ 60 := by
        have q := smN_le (f := C') (g := fun _ => 1) 60 (fun k hk => (X' k hk).2)
        rw [smN_const] at q
        omega
      rcases q with q | q
      · refine foll_while hN1 hK hN hW hA hT hk B fu d' C' v ?_ (by omega) h3' X' M' r' c' (Or.inl ⟨q.1, q.2.2⟩)
        rw [if_pos q.1, q.2.1]
        omega
      · refine foll_while hN1 hK hN hW hA hT hk B fu d' C' v ?_ (by omega) h3' X' M' r' c' (Or.inr q.1)
        rw [if_neg (by rw [q.1]; decide)]
        omega
/-- what can be come to, in the row of the reference -/
def CM (d : Dt) (z : Nat) (P : Nat → Prop) : Prop := ∀ v, v < 60 → (d.1 (z + 253) v = 1 ∧ P v) ∨ (d.1 (z + 253) v = 0 ∧ ¬ P v)
theorem foll_init (hNf : 2 ^ 40 ≤ N) (hK : KS sh z) (hN : WN R) (hW : WS R) (hA : AG (d0.1 (z + 243)) R) (hT : TM z R d0 T) (hc : c < 60) : ∀ (m i fu : Nat) (d : Dt), i + m = 60 → m < fu → CF z d0 d → (∀ v, v < i → d.1 (z + 253) v = nI (if v = c then 1 else 0)) → Rn (f_X12_follows_2 N sh fu (z + 242) (nI c) (z + 251) (nI i) d) (fun d' => CF z d0 d' ∧ CM d' z (rch R T c))
  | 0, i, fu, d, hi, hf, hM, hv => by
    obtain ⟨fu, rfl⟩ : ∃ q, fu = q + 1 := ⟨fu - 1, by omega⟩
    show Rn (g_X12_follows_2 N sh (f_X12_follows_2 N sh fu) (z + 242) (nI c) (z + 251) (nI i) d) _
    have n0 := hN.1.2
    unfold g_X12_follows_2
    refine rn_t ((nI_leI (a := 60) (by omega) (by omega)).mpr (by omega)) ?_
    unfold f_X12_follows_30
    have fin : ∀ (d' : Dt) (C' : Nat → Nat), CX2 d' z C' → CF z d0 d' → (∀ x, x < 60 → C' x = 1 → rch R T c x) → C' c = 1 → CLO R T C' (nn R 1) → (CF z d0 d' ∧ CM d' z (rch R T c)) := fun d' C' X' M' r' c' clo => ⟨M', fun v hv => by
      have hcl : ∀ a b, adj R T a b → C' a = 1 → C' b = 1 := fun a b ha h => by
        obtain ⟨s, q1, q2, q3⟩ := ha
        have := clo s q1 q2
        rcases q3 with ⟨rfl, rfl⟩ | ⟨rfl, rfl⟩ <;> omega
      obtain ⟨x1, x2⟩ := X' v hv
      rcases Nat.lt_or_ge (C' v) 1 with q | q
      · right
        have e : C' v = 0 := by omega
        refine ⟨by rw [x1, e]; rfl, fun r => ?_⟩
        have := rch_cl (P := fun x => C' x = 1) hcl r c'
        omega
      · left
        have e : C' v = 1 := by omega
        exact ⟨by rw [x1, e]; rfl, r' v hv e⟩⟩
    refine foll_while (c := c) (T := T) (by omega) hK hN hW hA hT fin 70 N d (fun v => if v = c then 1 else 0) 1 ?_ (by omega) ?_ (fun v hv2 => ⟨hv v (by omega), ?_⟩) hM (fun x hx h => ?_) (if_pos rfl) (Or.inr rfl)
    · rw [if_neg (by decide)]
      omega
    · have q := smN_le (f := fun v => if v = c then 1 else 0) (g := fun _ => 1) 60 (fun k _ => by
        show (if k = c then 1 else 0) ≤ 1
        split <;> omega)
      rw [smN_const] at q
      omega
    · show (if v = c then 1 else 0) ≤ 1
      split <;> omega
    · have h : (if x = c then 1 else 0) = 1 := h
      by_cases e : x = c
      · rw [e]
        exact rch_rf
      · rw [if_neg e] at h
        cases h
  | m + 1, i, fu, d, hi, hf, hM, hv => by
    obtain ⟨fu, rfl⟩ : ∃ q, fu = q + 1 := ⟨fu - 1, by omega⟩
    have ih := foll_init hNf hK hN hW hA hT hc m (i + 1) fu
    show Rn (g_X12_follows_2 N sh (f_X12_follows_2 N sh fu) (z + 242) (nI c) (z + 251) (nI i) d) _
    unfold g_X12_follows_2
    refine rn_f (nI_ge (b := 60) (by omega) (by decide)) ?_
    refine r_gP hK 242 12 17 253 rfl (by decide) ?_
    have go : ∀ w : Int32, vp_nar .boolean w = nI (if i = c then 1 else 0) → Rn (f_X12_follows_23 N sh (f_X12_follows_2 N sh fu) (z + 242) (nI c) (z + 251) (nI i) (z + 253) (nI i) w d) (fun d' => CF z d0 d' ∧ CM d' z (rch R T c)) := fun w hw => by
      unfold f_X12_follows_23
      refine rn_eq (q_sZ (ks_a hK 253 4 60 rfl) i rfl (by omega) (by decide)) ?_
      rw [nI_1]
      refine ih _ (by omega) (by omega) (hM.tr CF.w) (fun v hv2 => ?_)
      rw [wI_s]
      by_cases e : v = i
      · rw [e, va_up_s, hw]
      · rw [va_up_n e]
        exact hv v (by omega)
    refine rn_ite (fun h1 => ?_) (fun h1 => ?_)
    · refine go 0 ?_
      rw [if_neg (fun e => h1 (by rw [e]))]
      exact nar_b.2
    · refine go 1 ?_
      rw [if_pos (nI_inj (Decidable.of_not_not h1) (by omega) (by omega))]
      exact nar_b.1
theorem m_follows (hNf : 2 ^ 40 ≤ N) (hK : KS sh z) (hN : WN R) (hW : WS R) (hA : AG (d.1 (z + 243)) R) (hT : TM z R d T) (hc : c < 60) : Rn (f_X12_follows N sh (z + 242) (nI c) (z + 251) d) (fun d' => CF z d d' ∧ CM d' z (rch R T c)) := by
  unfold f_X12_follows
  refine rn_t (ks_o hK 242 12 rfl) ?_
  exact foll_init (d0 := d) hNf hK hN hW hA hT hc 60 0 N d (by omega) (by omega) CF.rf (fun v h => absurd h (Nat.not_lt_zero v))
end RC
/-! 74.reach2.lean.txt -/
def lost (R : Nat → Int32) (T : Nat → Nat) (c y : Nat) : Prop := ¬ rch R T c y ∧ ∃ s, s < nn R 1 ∧ 0 < T s ∧ (eA R s = y ∨ eB R s = y)
section RC2
variable {β : Type} {sh : Sh} {d d0 d' : Dt} {z : Nat} {R K : Nat → Int32} {N c y : Nat} {T C : Nat → Nat}
theorem tm_pos {s : Nat} (hT : TM z R d T) (hs : s < nn R 1) : d.1 (z + 251) s ≤ 0 ↔ T s = 0 := by
  obtain ⟨h1, h2⟩ := hT s hs
  rw [h1]
  rcases Nat.eq_zero_or_pos (T s) with q | q
  · rw [q]
    exact ⟨fun _ => rfl, fun _ => by decide⟩
  · exact ⟨fun r => absurd r (nI_nle q (by omega)), fun r => by omega⟩
theorem more_loop (hK : KS sh z) (hN : WN R) (hW : WS R) (hA : AG (d.1 (z + 243)) R) (hT : TM z R d T) (hC : CM d z (rch R T c)) : ∀ (m i fu : Nat) (v : Int32), i + m = nn R 1 → m < fu → ((v = 0 ∧ ∀ s, s < i → 0 < T s → rch R T c (eA R s)) ∨ (v = 1 ∧ ¬ conn R T c)) → Rn (f_X12_hasMore_4 N sh d fu (z + 242) (z + 251) v (nI i)) (fun r => (r = 0 ∧ conn R T c) ∨ (r = 1 ∧ ¬ conn R T c))
  | 0, i, fu, v, hi, hf, hv => by
    obtain ⟨fu, rfl⟩ : ∃ q, fu = q + 1 := ⟨fu - 1, by omega⟩
    show Rn (g_X12_hasMore_4 N sh (f_X12_hasMore_4 N sh d fu) (z + 242) (z + 251) v (nI i) d) _
    have n1 := hN.2.1
    unfold g_X12_hasMore_4
    refine rdg hK hA 1 rfl (by decide) ?_
    rw [n1.1]
    refine rn_t ((nI_leI (by omega) (by omega)).mpr (by omega)) ?_
    unfold f_X12_hasMore_57
    have e : i = nn R 1 := by omega
    subst e
    rcases hv with ⟨rfl, hv⟩ | ⟨rfl, hv⟩
    · exact ⟨0, rfl, Or.inl ⟨rfl, hv⟩⟩
    · exact ⟨1, rfl, Or.inr ⟨rfl, hv⟩⟩
  | m + 1, i, fu, v, hi, hf, hv => by
    obtain ⟨fu, rfl⟩ : ∃ q, fu = q + 1 := ⟨fu - 1, by omega⟩
    have ih := more_loop hK hN hW hA hT hC m (i + 1) fu
    show Rn (g_X12_hasMore_4 N sh (f_X12_hasMore_4 N sh d fu) (z + 242) (z + 251) v (nI i) d) _
    have n0 := hN.1.2
    have n1 := hN.2.1
    have his : i < nn R 1 := by omega
    obtain ⟨e7, a2, e8, b2, hne⟩ := ws_e hW hN his
    unfold g_X12_hasMore_4 f_X12_hasMore_45 f_X12_hasMore_49 f_X12_hasMore_50
    refine rdg hK hA 1 rfl (by decide) ?_
    rw [n1.1, nI_1]
    refine rn_f (nI_ge his (by omega)) ?_
    rcases hv with ⟨rfl, hv⟩ | ⟨rfl, hv⟩
    · refine rn_f (fun q => q rfl) ?_
      refine rn_eq (q_aT (ks_a hK 251 0 150 rfl) i rfl (by omega) (by decide)) ?_
      refine rn_ite (fun h1 => ?_) (fun h1 => ?_)
      · have h1 := (tm_pos hT his).mp h1
        refine ih 0 (by omega) (by omega) (Or.inl ⟨rfl, fun s hs hp => ?_⟩)
        by_cases e : s = i
        · rw [e, h1] at hp
          omega
        · exact hv s (by omega) hp
      · have h1 : 0 < T i := by
          have : ¬ T i = 0 := fun q => h1 ((tm_pos hT his).mpr q)
          omega
        refine r_gP hK 242 12 17 253 rfl (by decide) ?_
        refine rds hK hA 7 (by omega) (by decide) rfl ?_
        rw [e7]
        refine rn_eq (q_aT (ks_a hK 253 4 60 rfl) (eA R i) rfl (by omega) (by decide)) ?_
        rcases hC (eA R i) (by omega) with ⟨q1, q2⟩ | ⟨q1, q2⟩
        · refine rn_t (by rw [q1]; decide) ?_
          refine ih 0 (by omega) (by omega) (Or.inl ⟨rfl, fun s hs hp => ?_⟩)
          by_cases e : s = i
          · rw [e]
            exact q2
          · exact hv s (by omega) hp
        · refine rn_f (fun q => q q1) ?_
          exact ih 1 (by omega) (by omega) (Or.inr ⟨rfl, fun r => q2 (r i his h1)⟩)
    · refine rn_t (by decide) ?_
      exact ih 1 (by omega) (by omega) (Or.inr ⟨rfl, hv⟩)
theorem m_hasMore (hN1 : 151 ≤ N) (hK : KS sh z) (hN : WN R) (hW : WS R) (hA : AG (d.1 (z + 243)) R) (hT : TM z R d T) (hC : CM d z (rch R T c)) : Rn (f_X12_hasMore N sh (z + 242) (z + 251) d) (fun r => (r = 0 ∧ conn R T c) ∨ (r = 1 ∧ ¬ conn R T c)) := by
  have n1 := hN.2.1.2
  unfold f_X12_hasMore
  refine rn_t (ks_o hK 242 12 rfl) ?_
  exact more_loop hK hN hW hA hT hC (nn R 1) 0 N 0 (by omega) (by omega) (Or.inl ⟨rfl, fun s hs => absurd hs (Nat.not_lt_zero s)⟩)
theorem apart_loop (hK : KS sh z) (hN : WN R) (hW : WS R) (hA : AG (d.1 (z + 243)) R) (hT : TM z R d T) (hC : CM d z (rch R T c)) (hy : y < 60) : ∀ (m i fu : Nat) (v : Int32), i + m = nn R 1 → m < fu → ((v = 0 ∧ ∀ s, s < i → 0 < T s → rch R T c y ∨ ¬ (eA R s = y ∨ eB R s = y)) ∨ (v = 1 ∧ lost R T c y)) → Rn (f_X12_isApart_4 N sh d fu (z + 242) (nI y) v (nI i)) (fun r => (r = 0 ∧ ¬ lost R T c y) ∨ (r = 1 ∧ lost R T c y))
  | 0, i, fu, v, hi, hf, hv => by
    obtain ⟨fu, rfl⟩ : ∃ q, fu = q + 1 := ⟨fu - 1, by omega⟩
    show Rn (g_X12_isApart_4 N sh (f_X12_isApart_4 N sh d fu) (z + 242) (nI y) v (nI i) d) _
    have n1 := hN.2.1
    unfold g_X12_isApart_4
    refine rdg hK hA 1 rfl (by decide) ?_
    rw [n1.1]
    refine rn_t ((nI_leI (by omega) (by omega)).mpr (by omega)) ?_
    unfold f_X12_isApart_82
    have e : i = nn R 1 := by omega
    subst e
    rcases hv with ⟨rfl, hv⟩ | ⟨rfl, hv⟩
    · refine ⟨0, rfl, Or.inl ⟨rfl, fun q => ?_⟩⟩
      obtain ⟨q1, s, q2, q3, q4⟩ := q
      exact (hv s q2 q3).elim q1 (fun r => r q4)
    · exact ⟨1, rfl, Or.inr ⟨rfl, hv⟩⟩
  | m + 1, i, fu, v, hi, hf, hv => by
    obtain ⟨fu, rfl⟩ : ∃ q, fu = q + 1 := ⟨fu - 1, by omega⟩
    have ih := apart_loop hK hN hW hA hT hC hy m (i + 1) fu
    show Rn (g_X12_isApart_4 N sh (f_X12_isApart_4 N sh d fu) (z + 242) (nI y) v (nI i) d) _
    have n0 := hN.1.2
    have n1 := hN.2.1
    have his : i < nn R 1 := by omega
    obtain ⟨e7, a2, e8, b2, hne⟩ := ws_e hW hN his
    unfold g_X12_isApart_4 f_X12_isApart_70 f_X12_isApart_74 f_X12_isApart_75
    refine rdg hK hA 1 rfl (by decide) ?_
    rw [n1.1, nI_1]
    refine rn_f (nI_ge his (by omega)) ?_
    rcases hv with ⟨rfl, hv⟩ | ⟨rfl, hv⟩
    · have skip : (0 < T i → rch R T c y ∨ ¬ (eA R i = y ∨ eB R i = y)) → Rn (f_X12_isApart_4 N sh d fu (z + 242) (nI y) 0 (nI (i + 1))) (fun r => (r = 0 ∧ ¬ lost R T c y) ∨ (r = 1 ∧ lost R T c y)) := fun hs9 => by
        refine ih 0 (by omega) (by omega) (Or.inl ⟨rfl, fun s hs hp => ?_⟩)
        by_cases e : s = i
        · rw [e] at hp ⊢
          exact hs9 hp
        · exact hv s (by omega) hp
      refine rn_f (fun q => q rfl) ?_
      refine r_gP hK 242 12 14 251 rfl (by decide) ?_
      refine rn_eq (q_aT (ks_a hK 251 0 150 rfl) i rfl (by omega) (by decide)) ?_
      refine rn_ite (fun h1 => ?_) (fun h1 => ?_)
      · have h1 := (tm_pos hT his).mp h1
        exact skip (fun q => by omega)
      · have h1 : 0 < T i := by
          have : ¬ T i = 0 := fun q => h1 ((tm_pos hT his).mpr q)
          omega
        refine r_gP hK 242 12 17 253 rfl (by decide) ?_
        refine rn_eq (q_aT (ks_a hK 253 4 60 rfl) y rfl (by omega) (by decide)) ?_
        rcases hC y hy with ⟨q1, q2⟩ | ⟨q1, q2⟩
        · refine rn_t (by rw [q1]; decide) ?_
          exact skip (fun _ => Or.inl q2)
        · refine rn_f (fun q => q q1) ?_
          refine rds hK hA 7 (by omega) (by decide) rfl ?_
          rw [e7]
          refine rn_ite (fun h2 => ?_) (fun h2 => ?_)
          · exact ih 1 (by omega) (by omega) (Or.inr ⟨rfl, q2, i, his, h1, Or.inl (nI_inj h2 (by omega) (by omega))⟩)
          · refine rds hK hA 8 (by omega) (by decide) rfl ?_
            rw [e8]
            refine rn_ite (fun h3 => ?_) (fun h3 => ?_)
            · exact skip (fun _ => Or.inr (fun q => q.elim (fun q => h2 (by rw [q])) (fun q => h3 (by rw [q]))))
            · exact ih 1 (by omega) (by omega) (Or.inr ⟨rfl, q2, i, his, h1, Or.inr (nI_inj (Decidable.of_not_not h3) (by omega) (by omega))⟩)
    · refine rn_t (by decide) ?_
      exact ih 1 (by omega) (by omega) (Or.inr ⟨rfl, hv⟩)
theorem m_isApart (hN1 : 151 ≤ N) (hK : KS sh z) (hN : WN R) (hW : WS R) (hA : AG (d.1 (z + 243)) R) (hT : TM z R d T) (hC : CM d z (rch R T c)) (hy : y < 60) : Rn (f_X12_isApart N sh (z + 242) (nI y) d) (fun r => (r = 0 ∧ ¬ lost R T c y) ∨ (r = 1 ∧ lost R T c y)) := by
  have n1 := hN.2.1.2
  unfold f_X12_isApart
  refine rn_t (ks_o hK 242 12 rfl) ?_
  exact apart_loop hK hN hW hA hT hC hy (nn R 1) 0 N 0 (by omega) (by omega) (Or.inl ⟨rfl, fun s hs => absurd hs (Nat.not_lt_zero s)⟩)
/-! the class: its planner at z + 221 -/
def PL (d : Dt) (z : Nat) (R : Nat → Int32) (T : Nat → Nat) : Prop := d.1 (z + 221) 8 = nI (nn R 1) ∧ ∀ s, s < nn R 1 → d.1 (z + 230) s = nI (eA R s) ∧ d.1 (z + 231) s = nI (eB R s) ∧ d.1 (z + 232) s = nI (T s) ∧ T s < 2 ^ 30
def NF (z : Nat) (d d' : Dt) : Prop := d'.1 = d.1 ∧ d'.2.2 = d.2.2 ∧ ∀ a, a ≠ z + 234 → d'.2.1 a = d.2.1 a
theorem NF.rf : NF z d d := ⟨rfl, rfl, fun _ _ => rfl⟩
theorem NF.w {k : Nat} {v : Int64} (h : NF z d d') : NF z d (wJ d' (z + 234) k v) := ⟨h.1, h.2.1, fun a q => (up2_n q).trans (h.2.2 a q)⟩
theorem NF.tr {d1 d2 : Dt} (h1 : NF z d d1) (h2 : NF z d1 d2) : NF z d d2 := ⟨h2.1.trans h1.1, h2.2.1.trans h1.2.1, fun a q => (h2.2.2 a q).trans (h1.2.2 a q)⟩
def adjI (R : Nat → Int32) (T : Nat → Nat) (i u v : Nat) : Prop := ∃ s, s < i ∧ 0 < T s ∧ ((eA R s = u ∧ eB R s = v) ∨ (eA R s = v ∧ eB R s = u))
def tchI (R : Nat → Int32) (T : Nat → Nat) (i v : Nat) : Prop := ∃ s, s < i ∧ 0 < T s ∧ (eA R s = v ∨ eB R s = v)
def LKQ (z : Nat) (R : Nat → Int32) (T : Nat → Nat) (d : Dt) (r : Int64 × Dt) : Prop := NF z d r.2 ∧ (∀ u v, u < 60 → (bit (r.2.2.1 (z + 234) u) v = true ↔ adj R T u v)) ∧ ∀ v, bit r.1 v = true ↔ tchI R T (nn R 1) v
theorem pl_pos {s : Nat} (hP : PL d z R T) (hs : s < nn R 1) : d.1 (z + 232) s ≤ 0 ↔ T s = 0 := by
  obtain ⟨-, -, h1, h2⟩ := hP.2 s hs
  rw [h1]
  rcases Nat.eq_zero_or_pos (T s) with q | q
  · rw [q]
    exact ⟨fun _ => rfl, fun _ => by decide⟩
  · exact ⟨fun r => absurd r (nI_nle q (by omega)), fun r => by omega⟩
theorem look_loop (hK : KS sh z) (hN : WN R) (hW : WS R) (hP : PL d0 z R T) : ∀ (m i fu : Nat) (x : Int64) (d : Dt), i + m = nn R 1 → m < fu → NF z d0 d → (∀ u v, u < 60 → (bit (d.2.1 (z + 234) u) v = true ↔ adjI R T i u v)) → (∀ v, bit x v = true ↔ tchI R T i v) → Rn (f_X5_lookAtLeft_12 N sh fu (z + 221) x (nI i) d) (LKQ z R T d0)
  | 0, i, fu, x, d, hi, hf, hM, h1, h2 => by
    obtain ⟨fu, rfl⟩ : ∃ q, fu = q + 1 := ⟨fu - 1, by omega⟩
    show Rn (g_X5_lookAtLeft_12 N sh (f_X5_lookAtLeft_12 N sh fu) (z + 221) x (nI i) d) _
    have n1 := hN.2.1.2
    unfold g_X5_lookAtLeft_12
    refine r_gI hK (i := 221) (c := 5) rfl ?_
    rw [hM.1, hP.1]
    refine rn_t ((nI_leI (by omega) (by omega)).mpr (by omega)) ?_
    have e : i = nn R 1 := by omega
    subst e
    exact rn_some ⟨hM, h1, h2⟩
  | m + 1, i, fu, x, d, hi, hf, hM, h1, h2 => by
    obtain ⟨fu, rfl⟩ : ∃ q, fu = q + 1 := ⟨fu - 1, by omega⟩
    have ih := look_loop hK hN hW hP m (i + 1) fu
    show Rn (g_X5_lookAtLeft_12 N sh (f_X5_lookAtLeft_12 N sh fu) (z + 221) x (nI i) d) _
    have n0 := hN.1.2
    have n1 := hN.2.1.2
    have his : i < nn R 1 := by omega
    obtain ⟨e7, a2, e8, b2, hne⟩ := ws_e hW hN his
    obtain ⟨pa, pb, pt, pt2⟩ := hP.2 i his
    have hJ := ks_a hK 234 1 60 rfl
    unfold g_X5_lookAtLeft_12 f_X5_lookAtLeft_85
    refine r_gI hK (i := 221) (c := 5) rfl ?_
    rw [hM.1, hP.1, nI_1]
    refine rn_f (nI_ge his (by omega)) ?_
    refine r_gP hK 221 5 9 232 rfl (by decide) ?_
    refine rn_eq (q_aT (ks_a hK 232 0 150 rfl) i rfl (by omega) (by decide)) ?_
    rw [hM.1]
    refine rn_ite (fun q0 => ?_) (fun q0 => ?_)
    · have q0 := (pl_pos hP his).mp q0
      refine ih x d (by omega) (by omega) hM (fun u v hu => ?_) (fun v => ?_)
      · rw [h1 u v hu]
        refine ⟨fun ⟨s, r1, r2, r3⟩ => ⟨s, by omega, r2, r3⟩, fun ⟨s, r1, r2, r3⟩ => ⟨s, ?_, r2, r3⟩⟩
        by_cases e : s = i
        · rw [e, q0] at r2
          omega
        · omega
      · rw [h2 v]
        refine ⟨fun ⟨s, r1, r2, r3⟩ => ⟨s, by omega, r2, r3⟩, fun ⟨s, r1, r2, r3⟩ => ⟨s, ?_, r2, r3⟩⟩
        by_cases e : s = i
        · rw [e, q0] at r2
          omega
        · omega
    · have q0 : 0 < T i := by
        have : ¬ T i = 0 := fun q => q0 ((pl_pos hP his).mpr q)
        omega
      refine r_gP hK 221 5 6 230 rfl (by decide) ?_
      refine rn_eq (q_aT (ks_a hK 230 0 150 rfl) i rfl (by omega) (by decide)) ?_
      refine r_gP hK 221 5 7 231 rfl (by decide) ?_
      refine rn_eq (q_aT (ks_a hK 231 0 150 rfl) i rfl (by omega) (by decide)) ?_
      rw [hM.1, pa, pb]
      refine r_gP hK 221 5 11 234 rfl (by decide) ?_
      refine rn_eq (q_aJ hJ (eA R i) rfl (by omega) (by decide)) ?_
      refine rn_eq (q_sJ hJ (eA R i) rfl (by omega) (by decide)) ?_
      refine r_gP hK 221 5 11 234 rfl (by decide) ?_
      refine rn_eq (q_aJ hJ (eB R i) rfl (by omega) (by decide)) ?_
      refine rn_eq (q_sJ hJ (eB R i) rfl (by omega) (by decide)) ?_
      refine ih _ _ (by omega) (by omega) hM.w.w (fun u v hu => ?_) (fun v => ?_)
      · have e : (wJ (wJ d (z + 234) (eA R i) (d.2.1 (z + 234) (eA R i) ||| bt (eB R i))) (z + 234) (eB R i) ((wJ d (z + 234) (eA R i) (d.2.1 (z + 234) (eA R i) ||| bt (eB R i))).2.1 (z + 234) (eB R i) ||| bt (eA R i))).2.1 (z + 234) u = if u = eB R i then d.2.1 (z + 234) (eB R i) ||| bt (eA R i) else if u = eA R i then d.2.1 (z + 234) (eA R i) ||| bt (eB R i) else d.2.1 (z + 234) u := by
          show up2 (up2 d.2.1 (z + 234) (eA R i) (d.2.1 (z + 234) (eA R i) ||| bt (eB R i))) (z + 234) (eB R i) (up2 d.2.1 (z + 234) (eA R i) (d.2.1 (z + 234) (eA R i) ||| bt (eB R i)) (z + 234) (eB R i) ||| bt (eA R i)) (z + 234) u = _
          rw [up2_s, up2_s, va_up_n (fun e => hne e.symm)]
          by_cases c1 : u = eB R i
          · rw [if_pos c1, c1, va_up_s]
          · rw [if_neg c1, va_up_n c1]
            by_cases c2 : u = eA R i
            · rw [if_pos c2, c2, va_up_s]
            · rw [if_neg c2, va_up_n c2]
        refine Iff.trans (Iff.of_eq (congrArg (fun w => bit w v = true) e)) ?_
        have old : adjI R T i u v → adjI R T (i + 1) u v := fun ⟨s, r1, r2, r3⟩ => ⟨s, by omega, r2, r3⟩
        have dec : adjI R T (i + 1) u v → adjI R T i u v ∨ ((eA R i = u ∧ eB R i = v) ∨ (eA R i = v ∧ eB R i = u)) := fun ⟨s, r1, r2, r3⟩ => by
          by_cases es : s = i
          · rw [es] at r3
            exact Or.inr r3
          · exact Or.inl ⟨s, by omega, r2, r3⟩
        by_cases c1 : u = eB R i
        · rw [if_pos c1, bit_or, bit_bt (by omega), Bool.or_eq_true, ← c1, h1 u v hu, decide_eq_true_iff]
          refine ⟨fun q => q.elim old (fun q => ⟨i, by omega, q0, Or.inr ⟨q, c1.symm⟩⟩), fun q => ?_⟩
          rcases dec q with q | q
          · exact Or.inl q
          · rcases q with q | q
            · exact absurd (q.1.trans c1) hne
            · exact Or.inr q.1
        · rw [if_neg c1]
          by_cases c2 : u = eA R i
          · rw [if_pos c2, bit_or, bit_bt (by omega), Bool.or_eq_true, ← c2, h1 u v hu, decide_eq_true_iff]
            refine ⟨fun q => q.elim old (fun q => ⟨i, by omega, q0, Or.inl ⟨c2.symm, q⟩⟩), fun q => ?_⟩
            rcases dec q with q | q
            · exact Or.inl q
            · rcases q with q | q
              · exact Or.inr q.2
              · exact absurd q.2.symm c1
          · rw [if_neg c2, h1 u v hu]
            refine ⟨old, fun q => ?_⟩
            rcases dec q with q | q
            · exact q
            · rcases q with q | q
              · exact absurd q.1.symm c2
              · exact absurd q.2.symm c1
      · rw [bit_or, bit_or]
        refine Iff.trans (b := bit x v = true ∨ (eA R i = v ∨ eB R i = v)) ?_ ?_
        · have e1 : bit ((1 : Int64) <<< ((nI (eA R i)).toInt64 &&& 63)) v = decide (eA R i = v) := bit_bt (by omega)
          have e2 : bit ((1 : Int64) <<< ((nI (eB R i)).toInt64 &&& 63)) v = decide (eB R i = v) := bit_bt (by omega)
          rw [e1, e2, Bool.or_eq_true, Bool.or_eq_true, decide_eq_true_iff, decide_eq_true_iff]
        · rw [h2 v]
          refine ⟨fun q => ?_, fun ⟨s, r1, r2, r3⟩ => ?_⟩
          · rcases q with ⟨s, r1, r2, r3⟩ | q
            · exact ⟨s, by omega, r2, r3⟩
            · exact ⟨i, by omega, q0, q⟩
          · by_cases es : s = i
            · rw [es] at r3
              exact Or.inr r3
            · exact Or.inl ⟨s, by omega, r2, r3⟩
theorem k_look (hN2 : 300 ≤ N) (hK : KS sh z) (hN : WN R) (hW : WS R) (hP : PL d z R T) : Rn (f_X5_lookAtLeft N sh (z + 221) d) (LKQ z R T d) := by
  have n1 := hN.2.1.2
  unfold f_X5_lookAtLeft
  refine rn_t (ks_o hK 221 5 rfl) ?_
  refine r_gP hK 221 5 11 234 rfl (by decide) ?_
  refine rn_eq (fillJ_eq (ks_a hK 234 1 60 rfl) (by decide) (by omega)) ?_
  refine look_loop hK hN hW hP (nn R 1) 0 N 0 _ (by omega) (by omega) ⟨rfl, rfl, fun a q => va_up_n q⟩ (fun u v hu => ?_) (fun v => ?_)
  · show bit (va_up d.2.1 (z + 234) (fun k => if k < 60 then 0 else d.2.1 (z + 234) k) (z + 234) u) v = true ↔ _
    rw [va_up_s, if_pos hu, bit_0]
    exact ⟨fun q => (by cases q), fun ⟨s, r1, _⟩ => absurd r1 (Nat.not_lt_zero s)⟩
  · rw [bit_0]
    exact ⟨fun q => (by cases q), fun ⟨s, r1, _⟩ => absurd r1 (Nat.not_lt_zero s)⟩
theorem reach_loop (hK : KS sh z) (hN : WN R) (hW : WS R) (hc : c < 60) (hJ : ∀ u v, u < 60 → (bit (d.2.1 (z + 234) u) v = true ↔ adj R T u v)) : ∀ (m k fu : Nat) (S D : Int64), k + m = 60 → m < fu → (∀ v, bit D v = true → bit S v = true) → (∀ v, bit S v = true → v < 60 ∧ rch R T c v) → bit S c = true → (∀ u v, bit S u = true → ¬ bit D u = true → adj R T u v → bit S v = true) → smN (fun j => if bit S j = true ∧ ¬ bit D j = true then 1 else 0) 60 = k → Rn (f_X5_reachedFrom_10 N sh d fu (z + 221) S D (nI k)) (fun r => ∀ v, bit r v = true ↔ rch R T c v)
  | 0, k, fu, S, D, hk, hf, h1, h2, h3, h4, h5 => by
    obtain ⟨fu, rfl⟩ : ∃ q, fu = q + 1 := ⟨fu - 1, by omega⟩
    show Rn (g_X5_reachedFrom_10 N sh (f_X5_reachedFrom_10 N sh d fu) (z + 221) S D (nI k) d) _
    unfold g_X5_reachedFrom_10
    refine rn_t ((nI_leI (a := 60) (by omega) (by omega)).mpr (by omega)) ?_
    have hD : ∀ v, ¬ bit D v = true := fun v hv => by
      have hv6 := (h2 v (h1 v hv)).1
      have r := smN_up (f := fun j => if bit S j = true ∧ ¬ bit D j = true then 1 else 0) (c := v) (v := 1) 60 hv6
      rw [if_neg (fun q => q.2 hv)] at r
      have q := smN_le (f := va_up (fun j => if bit S j = true ∧ ¬ bit D j = true then 1 else 0) v 1) (g := fun _ => 1) 60 (fun j _ => by
        unfold va_up
        split
        · exact Nat.le_refl _
        · show (if bit S j = true ∧ ¬ bit D j = true then 1 else 0) ≤ 1
          split <;> omega)
      rw [smN_const] at q
      omega
    exact rn_some (fun v => ⟨fun q => (h2 v q).2, fun q => rch_cl (P := fun x => bit S x = true) (fun a b ha hu => h4 a b hu (hD a) ha) q h3⟩)
  | m + 1, k, fu, S, D, hk, hf, h1, h2, h3, h4, h5 => by
    obtain ⟨fu, rfl⟩ : ∃ q, fu = q + 1 := ⟨fu - 1, by omega⟩
    have ih := reach_loop hK hN hW hc hJ m (k + 1) fu
    show Rn (g_X5_reachedFrom_10 N sh (f_X5_reachedFrom_10 N sh d fu) (z + 221) S D (nI k) d) _
    have n0 := hN.1.2
    unfold g_X5_reachedFrom_10
    refine rn_f (nI_ge (b := 60) (by omega) (by decide)) ?_
    by_cases h0 : D = 0
    · refine rn_t (cmp0.mpr h0) ?_
      have hD : ∀ v, ¬ bit D v = true := fun v hv => by
        rw [h0, bit_0] at hv
        cases hv
      exact rn_some (fun v => ⟨fun q => (h2 v q).2, fun q => rch_cl (P := fun x => bit S x = true) (fun a b ha hu => h4 a b hu (hD a) ha) q h3⟩)
    · refine rn_f (fun q => h0 (cmp0.mp q)) ?_
      obtain ⟨a, ha, c1, c2⟩ := bit_ex h0
      have haS := h2 a (h1 a c1)
      refine rn_eq (k_lowest c1 c2) ?_
      refine r_gP hK 221 5 11 234 rfl (by decide) ?_
      refine rn_eq (q_aJ (ks_a hK 234 1 60 rfl) a rfl haS.1 (by decide)) ?_
      refine r_gP hK 221 5 11 234 rfl (by decide) ?_
      refine rn_eq (q_aJ (ks_a hK 234 1 60 rfl) a rfl haS.1 (by decide)) ?_
      rw [nI_1]
      have hn := fun v => hJ a v haS.1
      have bS : ∀ v, bit (S ||| d.2.1 (z + 234) a) v = true ↔ (bit S v = true ∨ adj R T a v) := fun v => by
        rw [bit_or, Bool.or_eq_true, hn v]
      have bD : ∀ v, bit ((D &&& (D - 1)) ||| (d.2.1 (z + 234) a &&& (S ^^^ (-1)))) v = true ↔ ((bit D v = true ∧ v ≠ a) ∨ (adj R T a v ∧ ¬ bit S v = true)) := fun v => by
        rw [bit_or, Bool.or_eq_true, bit_clr c1 c2, bit_and, Bool.and_eq_true, Bool.and_eq_true, hn v]
        refine or_congr (and_congr Iff.rfl (by simp)) ⟨fun q => ⟨q.1, ?_⟩, fun q => ⟨q.1, ?_⟩⟩
        · have := q.2
          rw [bit_not (bit_big ((hn v).mpr q.1))] at this
          intro r
          rw [r] at this
          cases this
        · rw [bit_not (bit_big ((hn v).mpr q.1)), bool_f q.2]
          rfl
      refine ih _ _ (by omega) (by omega) (fun v q => ?_) (fun v q => ?_) ((bS c).mpr (Or.inl h3)) (fun u v q1 q2 q3 => ?_) ?_
      · rcases (bD v).mp q with r | r
        · exact (bS v).mpr (Or.inl (h1 v r.1))
        · exact (bS v).mpr (Or.inr r.1)
      · rcases (bS v).mp q with r | r
        · exact h2 v r
        · exact ⟨by have := (adj_lt hW hN r).2; omega, rch_step haS.2 r⟩
      · refine (bS v).mpr ?_
        by_cases e : u = a
        · rw [e] at q3
          exact Or.inr q3
        · rcases (bS u).mp q1 with r | r
          · exact Or.inl (h4 u v r (fun r2 => q2 ((bD u).mpr (Or.inl ⟨r2, e⟩))) q3)
          · by_cases r2 : bit S u = true
            · exact Or.inl (h4 u v r2 (fun r3 => q2 ((bD u).mpr (Or.inl ⟨r3, e⟩))) q3)
            · exact absurd ((bD u).mpr (Or.inr ⟨r, r2⟩)) q2
      · have e : (fun j => if bit (S ||| d.2.1 (z + 234) a) j = true ∧ ¬ bit ((D &&& (D - 1)) ||| (d.2.1 (z + 234) a &&& (S ^^^ (-1)))) j = true then 1 else 0) = va_up (fun j => if bit S j = true ∧ ¬ bit D j = true then 1 else 0) a 1 := funext fun j => by
          by_cases q : j = a
          · subst q
            rw [va_up_s, if_pos ⟨(bS j).mpr (Or.inl (h1 j c1)), fun r => ((bD j).mp r).elim (fun r => r.2 rfl) (fun r => r.2 (h1 j c1))⟩]
          · rw [va_up_n q]
            by_cases q1 : bit S j = true
            · by_cases q2 : bit D j = true
              · rw [if_neg (fun r => r.2 ((bD j).mpr (Or.inl ⟨q2, q⟩))), if_neg (fun r => r.2 q2)]
              · rw [if_pos ⟨(bS j).mpr (Or.inl q1), fun r => ((bD j).mp r).elim (fun r => q2 r.1) (fun r => r.2 q1)⟩, if_pos ⟨q1, q2⟩]
            · rw [if_neg (fun r => ((bS j).mp r.1).elim q1 (fun r2 => r.2 ((bD j).mpr (Or.inr ⟨r2, q1⟩)))), if_neg (fun r => q1 r.1)]
        have r := smN_up (f := fun j => if bit S j = true ∧ ¬ bit D j = true then 1 else 0) (c := a) (v := 1) 60 haS.1
        rw [if_neg (fun q => q.2 c1)] at r
        rw [e]
        omega
theorem k_reached (hN2 : 300 ≤ N) (hK : KS sh z) (hN : WN R) (hW : WS R) (hc : c < 60) (hJ : ∀ u v, u < 60 → (bit (d.2.1 (z + 234) u) v = true ↔ adj R T u v)) : Rn (f_X5_reachedFrom N sh (z + 221) (nI c) d) (fun r => ∀ v, bit r v = true ↔ rch R T c v) := by
  have hb : ∀ v, bit (bt c) v = true ↔ c = v := fun v => by
    rw [bit_bt hc, decide_eq_true_iff]
  unfold f_X5_reachedFrom
  refine rn_t (ks_o hK 221 5 rfl) ?_
  refine reach_loop (c := c) (T := T) hK hN hW hc hJ 60 0 N (bt c) (bt c) (by omega) (by omega) (fun v q => q) (fun v q => ?_) ((hb c).mpr rfl) (fun u v q1 q2 => absurd q1 q2) ?_
  · rw [← (hb v).mp q]
    exact ⟨hc, rch_rf⟩
  · have : (fun j => if bit (bt c) j = true ∧ ¬ bit (bt c) j = true then 1 else 0) = fun _ : Nat => 0 := funext fun j => if_neg (fun q => q.2 q.1)
    rw [this, smN_const]
end RC2
/-! 75.join.lean.txt -/
/-! JOINING -/
def addL (n : Nat) : (Nat → Nat) → List Nat → (Nat → Nat)
  | T, [] => T
  | T, s :: l => addL n (va_up T s (T s + n)) l
def cand (R : Nat → Int32) (T : Nat → Nat) (x y n : Nat) : Prop := rch R T 0 x ∧ x < nn R 0 ∧ lost R T 0 y ∧ y < nn R 0 ∧ dst R x y n
def jb (R : Nat → Int32) (T : Nat → Nat) (p q : Nat) : Prop := ∃ n, cand R T p q n ∧ ∀ x y n', cand R T x y n' → n < n' ∨ (n = n' ∧ (p < x ∨ (p = x ∧ q ≤ y)))
noncomputable def jnP (R : Nat → Int32) (T : Nat → Nat) : Nat × Nat := Classical.epsilon (fun q : Nat × Nat => jb R T q.1 q.2)
noncomputable def jn1 (R : Nat → Int32) (T : Nat → Nat) : Nat → Nat := addL 2 T (wayL R (jnP R T).2 60 (jnP R T).1)
noncomputable def joinF (R : Nat → Int32) : Nat → (Nat → Nat) → Option (Nat → Nat)
  | 0, _ => none
  | k + 1, T => @ite _ (conn R T 0) (Classical.propDecidable _) (some T) (@ite _ (∃ p q, jb R T p q) (Classical.propDecidable _) (joinF R k (jn1 R T)) none)
/-- TIMES stand at OPEN STREETS alone -/
def OPT (R : Nat → Int32) (T : Nat → Nat) : Prop := ∀ s, s < nn R 1 → 0 < T s → R (16 + 9 * s + 4) = 0
/-- no OPEN STREET is ONE WAY -/
def BW (R : Nat → Int32) : Prop := ∀ s, s < nn R 1 → R (16 + 9 * s + 4) = 0 → R (16 + 9 * s + 5) = 0
section JN
variable {R : Nat → Int32} {T T' : Nat → Nat} {n b u p q : Nat}
theorem addL_ge : ∀ (l : List Nat) (T : Nat → Nat) (s : Nat), T s ≤ addL n T l s
  | [], T, s => Nat.le_refl _
  | t :: l, T, s => by
    refine Nat.le_trans ?_ (addL_ge l (va_up T t (T t + n)) s)
    by_cases e : s = t
    · rw [e, va_up_s]
      omega
    · rw [va_up_n e]
      exact Nat.le_refl _
theorem addL_le : ∀ (l : List Nat) (T : Nat → Nat) (s : Nat), addL n T l s ≤ T s + n * l.length
  | [], T, s => by
    show T s ≤ _
    omega
  | t :: l, T, s => by
    refine Nat.le_trans (addL_le l (va_up T t (T t + n)) s) ?_
    have e1 : n * (t :: l).length = n * l.length + n := by
      rw [List.length_cons, Nat.mul_add, Nat.mul_one]
    by_cases e : s = t
    · rw [e, va_up_s]
      omega
    · rw [va_up_n e]
      omega
theorem addL_out : ∀ (l : List Nat) (T : Nat → Nat) (s : Nat), ¬ s ∈ l → addL n T l s = T s
  | [], T, s, h => rfl
  | t :: l, T, s, h => by
    show addL n (va_up T t (T t + n)) l s = T s
    rw [addL_out l _ s (fun q => h (List.mem_cons_of_mem _ q))]
    refine va_up_n (fun e => h ?_)
    rw [e]
    exact List.mem_cons_self ..
theorem addL_in : ∀ (l : List Nat) (T : Nat → Nat) (s : Nat), s ∈ l → T s + n ≤ addL n T l s
  | [], T, s, h => absurd h (by simp)
  | t :: l, T, s, h => by
    show T s + n ≤ addL n (va_up T t (T t + n)) l s
    rcases List.mem_cons.mp h with e | e
    · subst e
      have := addL_ge (n := n) l (va_up T s (T s + n)) s
      rw [va_up_s] at this
      exact this
    · have := addL_in l (va_up T t (T t + n)) s e
      by_cases e2 : s = t
      · rw [e2, va_up_s] at this
        rw [e2]
        omega
      · rw [va_up_n e2] at this
        exact this
theorem addL_par : ∀ (l : List Nat) (T : Nat → Nat) (s : Nat), addL 2 T l s % 2 = T s % 2
  | [], T, s => rfl
  | t :: l, T, s => by
    show addL 2 (va_up T t (T t + 2)) l s % 2 = _
    rw [addL_par l _ s]
    by_cases e : s = t
    · rw [e, va_up_s]
      omega
    · rw [va_up_n e]
theorem wayL_len : ∀ (k u : Nat), (wayL R b k u).length ≤ k
  | 0, u => Nat.le_refl _
  | k + 1, u => by
    show (if u = b then [] else (nxt R b u).1 :: wayL R b k (nxt R b u).2).length ≤ k + 1
    split
    · exact Nat.zero_le _
    · have := wayL_len k (nxt R b u).2
      rw [List.length_cons]
      omega
/-- every STREET of THE WAY is OPEN -/
theorem wayL_open : ∀ (k u : Nat), rk R b k u → ∀ s, s ∈ wayL R b k u → s < nn R 1 ∧ R (16 + 9 * s + 4) = 0
  | 0, u, h, s, hs => absurd hs (by simp [wayL])
  | k + 1, u, h, s, hs => by
    unfold wayL at hs
    by_cases e : u = b
    · rw [if_pos e] at hs
      exact absurd hs (by simp)
    · rw [if_neg e] at hs
      obtain ⟨_, hq, hr⟩ := h.resolve_left e
      rcases List.mem_cons.mp hs with r | r
      · rw [r]
        exact ⟨hq.1.2.1.1, hq.1.2.1.2.1⟩
      · exact wayL_open k _ hr s r
theorem edge_e {s c : Nat} (hW : WS R) (hN : WN R) (hu : u < nn R 0) (hc : c < nn R 0) (he : edge R s u c) : (eA R s = u ∧ eB R s = c) ∨ (eA R s = c ∧ eB R s = u) := by
  have n0 := hN.1.2
  obtain ⟨e7, a2, e8, b2, hne⟩ := ws_e hW hN he.1
  rcases (edge_iff (x := u) (y := c) he.1 he.2.1 e7 e8 (by omega) (by omega) (by omega) (by omega)).mp he with ⟨r1, r2⟩ | ⟨_, r1, r2⟩
  · exact Or.inl ⟨r1.symm, r2.symm⟩
  · exact Or.inr ⟨r2.symm, r1.symm⟩
/-- THE WAY is driven: all its CROSSINGS can be come to -/
theorem way_in {c0 : Nat} (hW : WS R) (hN : WN R) : ∀ (k u : Nat), rk R b k u → u < nn R 0 → (∀ s, s ∈ wayL R b k u → 0 < T s) → rch R T c0 u → (∀ s, s ∈ wayL R b k u → rch R T c0 (eA R s) ∧ rch R T c0 (eB R s)) ∧ rch R T c0 b
  | 0, u, h, hu, hp, hr => ⟨fun s hs => absurd hs (by simp [wayL]), by
    have h : u = b := h
    rw [← h]
    exact hr⟩
  | k + 1, u, h, hu, hp, hr => by
    unfold wayL at hp ⊢
    by_cases e : u = b
    · rw [if_pos e]
      exact ⟨fun s hs => absurd hs (by simp), by rw [← e]; exact hr⟩
    · rw [if_neg e] at hp ⊢
      obtain ⟨_, hq, hrk⟩ := h.resolve_left e
      have he := edge_e hW hN hu hq.1.1 hq.1.2.1
      have hs1 := hq.1.2.1.1
      have hp1 := hp _ (List.mem_cons_self ..)
      have ad : adj R T u (nxt R b u).2 := ⟨(nxt R b u).1, hs1, hp1, he⟩
      have hr2 := rch_step hr ad
      have ih := way_in hW hN k (nxt R b u).2 hrk hq.1.1 (fun s hs => hp s (List.mem_cons_of_mem _ hs)) hr2
      refine ⟨fun s hs => ?_, ih.2⟩
      rcases List.mem_cons.mp hs with r | r
      · rw [r]
        rcases he with ⟨r1, r2⟩ | ⟨r1, r2⟩
        · rw [r1, r2]
          exact ⟨hr, hr2⟩
        · rw [r1, r2]
          exact ⟨hr2, hr⟩
      · exact ih.1 s r
theorem jb_fun {p' q' : Nat} (h1 : jb R T p q) (h2 : jb R T p' q') : p = p' ∧ q = q' := by
  obtain ⟨n, a1, a2⟩ := h1
  obtain ⟨n', b1, b2⟩ := h2
  have x1 := a2 _ _ _ b1
  have x2 := b2 _ _ _ a1
  omega
theorem jnP_eq (h : jb R T p q) : jnP R T = (p, q) := by
  have r := Classical.epsilon_spec (p := fun q : Nat × Nat => jb R T q.1 q.2) ⟨(p, q), h⟩
  have e := jb_fun r h
  exact Prod.ext e.1 e.2
/-- how many are lost -/
noncomputable def lc (R : Nat → Int32) (T : Nat → Nat) : Nat := smN (fun y => @ite _ (lost R T 0 y) (Classical.propDecidable _) 1 0) (nn R 0)
theorem ite_p {p : Prop} {i : Decidable p} {α : Type} {a b : α} (h : p) : @ite _ p i a b = a := if_pos h
theorem ite_n {p : Prop} {i : Decidable p} {α : Type} {a b : α} (h : ¬ p) : @ite _ p i a b = b := if_neg h
theorem jn1_props (hW : WS R) (hN : WN R) (hj : jb R T p q) : (∀ s, T s ≤ jn1 R T s) ∧ (∀ s, jn1 R T s ≤ T s + 120) ∧ (∀ s, jn1 R T s % 2 = T s % 2) ∧ (OPT R T → OPT R (jn1 R T)) ∧ lc R (jn1 R T) + 1 ≤ lc R T := by
  obtain ⟨n, ⟨c1, c2, c3, c4, c5⟩, -⟩ := id hj
  have hrk := rk_60 hW hN c5
  have e : jn1 R T = addL 2 T (wayL R q 60 p) := by
    unfold jn1
    rw [jnP_eq hj]
  rw [e]
  have hge := fun s => addL_ge (n := 2) (wayL R q 60 p) T s
  have hlen := wayL_len (R := R) (b := q) 60 p
  have hpos : ∀ s, s ∈ wayL R q 60 p → 0 < addL 2 T (wayL R q 60 p) s := fun s hs => by
    have := addL_in (n := 2) (wayL R q 60 p) T s hs
    omega
  have hm : ∀ v, rch R T 0 v → rch R (addL 2 T (wayL R q 60 p)) 0 v := fun v hv => rch_mono (fun s _ h => by have := hge s; omega) hv
  have hin := way_in (T := addL 2 T (wayL R q 60 p)) (c0 := 0) hW hN 60 p hrk c2 hpos (hm p c1)
  refine ⟨hge, fun s => ?_, fun s => addL_par _ _ _, fun ho s hs hp => ?_, ?_⟩
  · have := addL_le (n := 2) (wayL R q 60 p) T s
    omega
  · by_cases hs2 : s ∈ wayL R q 60 p
    · exact (wayL_open 60 p hrk s hs2).2
    · rw [addL_out _ _ _ hs2] at hp
      exact ho s hs hp
  · have key : ∀ y, lost R (addL 2 T (wayL R q 60 p)) 0 y → lost R T 0 y ∧ y ≠ q := fun y hy => by
      obtain ⟨h1, s, h2, h3, h4⟩ := hy
      have hsn : ¬ s ∈ wayL R q 60 p := fun r => by
        have := hin.1 s r
        rcases h4 with h4 | h4
        · rw [h4] at this
          exact h1 this.1
        · rw [h4] at this
          exact h1 this.2
      rw [addL_out _ _ _ hsn] at h3
      exact ⟨⟨fun r => h1 (hm y r), s, h2, h3, h4⟩, fun r => h1 (by rw [r]; exact hin.2)⟩
    unfold lc
    have s1 := smN_up (f := fun y => @ite _ (lost R (addL 2 T (wayL R q 60 p)) 0 y) (Classical.propDecidable _) 1 0) (c := q) (v := 1) (nn R 0) c4
    rw [ite_n (fun r => (key q r).2 rfl)] at s1
    have s2 := smN_le (f := va_up (fun y => @ite _ (lost R (addL 2 T (wayL R q 60 p)) 0 y) (Classical.propDecidable _) 1 0) q 1) (g := fun y => @ite _ (lost R T 0 y) (Classical.propDecidable _) 1 0) (nn R 0) (fun y _ => by
      by_cases ey : y = q
      · subst ey
        show va_up _ y 1 y ≤ _
        rw [va_up_s, ite_p c3]
        exact Nat.le_refl _
      · rw [va_up_n ey]
        by_cases r : lost R (addL 2 T (wayL R q 60 p)) 0 y
        · rw [ite_p r, ite_p (key y r).1]
          exact Nat.le_refl _
        · rw [ite_n r]
          exact Nat.zero_le _)
    omega
theorem lc_59 (hN : WN R) : lc R T < 60 := by
  have n0 := hN.1.2
  unfold lc
  rcases Nat.eq_zero_or_pos (nn R 0) with h | h
  · rw [h]
    show 0 < 60
    omega
  · have s1 := smN_up (f := fun y => @ite _ (lost R T 0 y) (Classical.propDecidable _) 1 0) (c := 0) (v := 1) (nn R 0) h
    rw [ite_n (fun r => r.1 rch_rf)] at s1
    have s2 := smN_le (f := va_up (fun y => @ite _ (lost R T 0 y) (Classical.propDecidable _) 1 0) 0 1) (g := fun _ => 1) (nn R 0) (fun y _ => by
      unfold va_up
      split
      · exact Nat.le_refl _
      · show @ite _ (lost R T 0 y) (Classical.propDecidable _) 1 0 ≤ 1
        by_cases r : lost R T 0 y
        · rw [ite_p r]
          exact Nat.le_refl _
        · rw [ite_n r]
          exact Nat.zero_le _)
    rw [smN_const] at s2
    omega
theorem joinF_props (hW : WS R) (hN : WN R) : ∀ (k : Nat) (T T' : Nat → Nat), joinF R k T = some T' → (∀ s, s < nn R 1 → T s + 120 * k ≤ 8000) → OPT R T → (∀ s, s < nn R 1 → T' s ≤ 8000) ∧ (∀ s, T' s % 2 = T s % 2) ∧ (∀ s, T s ≤ T' s) ∧ OPT R T' ∧ conn R T' 0
  | 0, T, T', h, hb, ho => by cases h
  | k + 1, T, T', h, hb, ho => by
    unfold joinF at h
    by_cases hc : conn R T 0
    · rw [ite_p hc] at h
      cases h
      exact ⟨fun s hs => by have := hb s hs; omega, fun _ => rfl, fun _ => Nat.le_refl _, ho, hc⟩
    · rw [ite_n hc] at h
      by_cases hj : ∃ p q, jb R T p q
      · rw [ite_p hj] at h
        obtain ⟨p, q, hj⟩ := hj
        obtain ⟨a1, a2, a3, a4, a5⟩ := jn1_props hW hN hj
        obtain ⟨b1, b2, b3, b4, b5⟩ := joinF_props hW hN k _ T' h (fun s hs => by have := hb s hs; have := a2 s; omega) (a4 ho)
        exact ⟨b1, fun s => (b2 s).trans (a3 s), fun s => Nat.le_trans (a1 s) (b3 s), b4, b5⟩
      · rw [ite_n hj] at h
        cases h
end JN
