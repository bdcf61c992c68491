section ME2
variable {β : Type} {Q : Dt → Prop} {sh : Sh} {d d0 d' : Dt} {z : Nat} {ow : Nat → Nat} {R : Nat → Int32} {N g : Nat} {L : Nat → Nat} {f : Nat → Nat} {S B : Int64} {k m : Nat}
theorem near_loop {rw : Nat} (hrow : isA sh rw 0 ∧ sh.2.2.1 rw = 60) (hf : ∀ a, a < 60 → d.1 rw a = nI (f a) ∧ f a ≤ 1000000000) (hB : ∀ j, bit B j = true → j < 60) : ∀ (p k fu m : Nat) (o : Int64), k + p = 60 → p < fu → bit B m = true → (∀ j, bit B j = true → bit o j = true ∨ f m ≤ f j) → (∀ j, bit o j = true → bit B j = true ∧ k < j) → Rn (f_X10_nearestOf_15 N sh d fu rw (nI m) o (nI k)) (fun r => ∃ m, r = nI m ∧ bit B m = true ∧ ∀ j, bit B j = true → f m ≤ f j)
  | 0, k, fu, m, o, hk, hfu, hm, h1, h2 => by
    obtain ⟨fu, rfl⟩ : ∃ q, fu = q + 1 := ⟨fu - 1, by omega⟩
    show Rn (g_X10_nearestOf_15 N sh (f_X10_nearestOf_15 N sh d fu) rw (nI m) o (nI k) d) _
    unfold g_X10_nearestOf_15
    refine rn_t ((nI_leI (a := 60) (by omega) (by omega)).mpr (by omega)) ?_
    refine rn_some ⟨m, rfl, hm, fun j hj => (h1 j hj).resolve_left (fun q => ?_)⟩
    have := h2 j q
    have := hB j hj
    omega
  | p + 1, k, fu, m, o, hk, hfu, hm, h1, h2 => by
    obtain ⟨fu, rfl⟩ : ∃ q, fu = q + 1 := ⟨fu - 1, by omega⟩
    have ih := near_loop hrow hf hB p (k + 1) fu
    show Rn (g_X10_nearestOf_15 N sh (f_X10_nearestOf_15 N sh d fu) rw (nI m) o (nI k) d) _
    unfold g_X10_nearestOf_15
    refine rn_f (nI_ge (b := 60) (by omega) (by decide)) ?_
    by_cases h0 : o = 0
    · refine rn_t (cmp0.mpr h0) ?_
      refine rn_some ⟨m, rfl, hm, fun j hj => (h1 j hj).resolve_left (fun q => ?_)⟩
      rw [h0, bit_0] at q
      cases q
    · refine rn_f (fun q => h0 (cmp0.mp q)) ?_
      obtain ⟨c, hc, c1, c2⟩ := bit_ex h0
      have hcB := h2 c c1
      have hc60 := hB c hcB.1
      have hm60 := hB m hm
      refine rn_eq (k_lowest c1 c2) ?_
      refine rn_eq (q_aT hrow c rfl hc60 (by decide)) ?_
      refine rn_eq (q_aT hrow m rfl hm60 (by decide)) ?_
      rw [(hf c hc60).1, (hf m hm60).1]
      have b1 := (hf c hc60).2
      have b2 := (hf m hm60).2
      have h2' : ∀ j, bit (o &&& (o - 1)) j = true → bit B j = true ∧ k + 1 < j := fun j q => by
        rw [bit_clr c1 c2, Bool.and_eq_true] at q
        have q1 := h2 j q.1
        have q2 : j ≠ c := fun e => by
          rw [e] at q
          simp at q
        have : ¬ j < c := fun r => by
          have := c2 j r
          rw [q.1] at this
          cases this
        exact ⟨q1.1, by omega⟩
      have hcl : ∀ j, bit o j = true → j ≠ c → bit (o &&& (o - 1)) j = true := fun j q1 q2 => by
        rw [bit_clr c1 c2, q1]
        simp [q2]
      unfold f_X10_nearestOf_58
      rw [nI_1]
      refine rn_ite (fun hle => ?_) (fun hle => ?_)
      · have hle := (nI_leI (by omega) (by omega)).mp hle
        refine ih m _ (by omega) (by omega) hm (fun j hj => ?_) h2'
        rcases h1 j hj with q | q
        · by_cases e : j = c
          · rw [e]
            exact Or.inr hle
          · exact Or.inl (hcl j q e)
        · exact Or.inr q
      · have hle : ¬ f m ≤ f c := fun q => hle ((nI_leI (by omega) (by omega)).mpr q)
        refine ih c _ (by omega) (by omega) hcB.1 (fun j hj => ?_) h2'
        rcases h1 j hj with q | q
        · by_cases e : j = c
          · rw [e]
            exact Or.inr (Nat.le_refl _)
          · exact Or.inl (hcl j q e)
        · exact Or.inr (by omega)
theorem k_nearestOf {rw : Nat} (hN : 100 ≤ N) (hrow : isA sh rw 0 ∧ sh.2.2.1 rw = 60) (hf : ∀ a, a < 60 → d.1 rw a = nI (f a) ∧ f a ≤ 1000000000) (hB : ∀ j, bit B j = true → j < 60) (h0 : B ≠ 0) : Rn (f_X10_nearestOf N sh rw B d) (fun r => ∃ m, r = nI m ∧ bit B m = true ∧ ∀ j, bit B j = true → f m ≤ f j) := by
  obtain ⟨c, hc, c1, c2⟩ := bit_ex h0
  unfold f_X10_nearestOf
  refine rn_eq (k_lowest c1 c2) ?_
  refine near_loop hrow hf hB 60 0 N c _ (by omega) (by omega) c1 (fun j hj => ?_) (fun j hj => ?_)
  · by_cases e : j = c
    · rw [e]
      exact Or.inr (Nat.le_refl _)
    · left
      rw [bit_clr c1 c2, hj]
      simp [e]
  · rw [bit_clr c1 c2, Bool.and_eq_true] at hj
    have q2 : j ≠ c := fun e => by
      rw [e] at hj
      simp at hj
    have : ¬ j < c := fun r => by
      have := c2 j r
      rw [hj.1] at this
      cases this
    exact ⟨hj.1, by omega⟩
/-- only the lengths to g are touched -/
def MGr (z g : Nat) (d d' : Dt) : Prop := d'.2 = d.2 ∧ ∀ a, a ≠ z + (141 + g) → d'.1 a = d.1 a
theorem MGr.rf : MGr z g d d := ⟨rfl, fun _ _ => rfl⟩
theorem MGr.tr {d1 d2 : Dt} (h1 : MGr z g d d1) (h2 : MGr z g d1 d2) : MGr z g d d2 := ⟨h2.1.trans h1.1, fun a q => (h2.2 a q).trans (h1.2 a q)⟩
theorem MGr.w {k : Nat} {v : Int32} : MGr z g d (wI d (z + (141 + g)) k v) := ⟨rfl, fun a q => wI_n q⟩
theorem MGr.wfr (h : MGr z g d d') (hg : g < 60) : WFR z d d' := ⟨by rw [h.1], fun a q => ⟨h.2 a (by omega), by rw [h.1]⟩⟩
theorem relax_loop {k27 : Nat → Nat → Int64 → Int64 → Int32 → Dt → Option Dt} {fr0 : Int64} {ml f0 : Nat → Nat} (hK : KS sh z) (hw : OWS ow z) (hN : WN R) (hW : WS R) (hg : g < 60) (hm : m < 60) (hmf : bit fr0 m = false) (hfr : ∀ a, bit fr0 a = true → a < 60 ∧ ∃ s, s < nn R 1 ∧ d0.1 (z + (79 + a)) m = nI s ∧ sln R s = ml a) (hf0 : ∀ a, a < 60 → f0 a ≤ 1000000000) (hfm : f0 m ≤ 600000) (hS : SPN d0 z) (hT : TB sh d0 z ow 4 9 (nn R 1) (vS R) L)
    (hk : ∀ (d' : Dt) (f' : Nat → Nat), MGr z g d0 d' → (∀ a, a < 60 → d'.1 (z + (141 + g)) a = nI (f' a)) → (∀ a, a < 60 → f' a = if bit fr0 a = true then min (f0 a) (f0 m + ml a) else f0 a) → Rn (k27 (z + 77) (z + (141 + g)) B S (nI k + 1) d') Q) :
    ∀ (p j fu : Nat) (d : Dt) (f : Nat → Nat) (fr : Int64), j + p = 60 → p < fu → MGr z g d0 d → (∀ a, a < 60 → d.1 (z + (141 + g)) a = nI (f a)) → (∀ a, a < 60 → f a = if bit fr0 a = true ∧ bit fr a = false then min (f0 a) (f0 m + ml a) else f0 a) → (∀ a, bit fr a = true → bit fr0 a = true ∧ j ≤ a) → Rn (f_X10_measure_87 N sh k27 fu (z + 77) (z + (141 + g)) B S (nI k) (nI m) fr (nI j) d) Q
  | 0, j, fu, d, f, fr, hj, hfu, hM, hrow, hf, hb => by
    obtain ⟨fu, rfl⟩ : ∃ q, fu = q + 1 := ⟨fu - 1, by omega⟩
    show Rn (g_X10_measure_87 N sh k27 (f_X10_measure_87 N sh k27 fu) (z + 77) (z + (141 + g)) B S (nI k) (nI m) fr (nI j) d) _
    unfold g_X10_measure_87
    refine rn_t ((nI_leI (a := 60) (by omega) (by omega)).mpr (by omega)) ?_
    refine hk d f hM hrow (fun a ha => ?_)
    have : bit fr a = false := bool_f (fun q => by have := hb a q; omega)
    rw [hf a ha, this]
    simp
  | p + 1, j, fu, d, f, fr, hj, hfu, hM, hrow, hf, hb => by
    obtain ⟨fu, rfl⟩ : ∃ q, fu = q + 1 := ⟨fu - 1, by omega⟩
    have ih := relax_loop hK hw hN hW hg hm hmf hfr hf0 hfm hS hT hk p (j + 1) fu
    show Rn (g_X10_measure_87 N sh k27 (f_X10_measure_87 N sh k27 fu) (z + 77) (z + (141 + g)) B S (nI k) (nI m) fr (nI j) d) _
    have n1 := hN.2.1.2
    unfold g_X10_measure_87
    refine rn_f (nI_ge (b := 60) (by omega) (by decide)) ?_
    by_cases h0 : fr = 0
    · refine rn_t (cmp0.mpr h0) ?_
      refine hk d f hM hrow (fun a ha => ?_)
      rw [hf a ha, h0, bit_0]
      simp
    · refine rn_f (fun q => h0 (cmp0.mp q)) ?_
      obtain ⟨c, hc, c1, c2⟩ := bit_ex h0
      have hcb := hb c c1
      obtain ⟨hc60, s, hs1, hs2, hs3⟩ := hfr c hcb.1
      have hSd := hS.wfr (hM.wfr hg)
      have hTd := tb_wfr hK hw (by decide) hT (hM.wfr hg) (by omega)
      have hR := ks_a hK (141 + g) 0 60 (ck_gap hg)
      refine rn_eq (k_lowest c1 c2) ?_
      refine rn_eq (q_aT hR c rfl hc60 (by decide)) ?_
      refine rn_eq (q_aT hR m rfl hm (by decide)) ?_
      refine r_gP hK 77 10 0 3 rfl (by decide) ?_
      refine r_gP hK 3 1 1 4 rfl (by decide) ?_
      refine r_hop hK hSd hc60 hm ?_
      rw [hM.2 (z + (79 + c)) (by omega), hs2]
      refine rn_eq (tb_get (o := 4) (nc := 9) (c := 6) hK (by decide) hTd rfl hs1 rfl (by decide)) ?_
      have e6 : vS R 6 s = nI (sln R s) := (hW s hs1).2.1.1
      have l6 := (hW s hs1).2.1.2
      have efc : f c = f0 c := by
        rw [hf c hc60, if_neg (fun q => by rw [c1] at q; cases q.2)]
      have efm : f m = f0 m := by
        rw [hf m hm, if_neg (fun q => by rw [hmf] at q; cases q.1)]
      have bc := hf0 c hc60
      rw [hrow c hc60, hrow m hm, e6, efc, efm, nI_add, hs3, o_min_nI (by omega) (by omega)]
      refine rn_eq (q_sI hR c rfl hc60 (by decide)) ?_
      rw [nI_1]
      have hcl : ∀ a, bit (fr &&& (fr - 1)) a = (bit fr a && !decide (a = c)) := fun a => bit_clr c1 c2
      refine ih _ (va_up f c (min (f0 c) (f0 m + ml c))) _ (by omega) (by omega) (hM.tr MGr.w) (fun a ha => ?_) (fun a ha => ?_) (fun a q => ?_)
      · rw [wI_s]
        by_cases e : a = c
        · rw [e, va_up_s, va_up_s]
        · rw [va_up_n e, va_up_n e]
          exact hrow a ha
      · rw [hcl]
        by_cases e : a = c
        · subst e
          rw [va_up_s, if_pos ⟨hcb.1, by simp⟩]
        · rw [va_up_n e, hf a ha]
          simp [e]
      · rw [hcl, Bool.and_eq_true] at q
        have q1 := hb a q.1
        have q2 : a ≠ c := fun e => by
          rw [e] at q
          simp at q
        have : ¬ a < c := fun r => by
          have := c2 a r
          rw [q.1] at this
          cases this
        exact ⟨q1.1, by omega⟩
theorem dj_room (hN : WN R) (h : DJ R g f S B k) (hm : bit B m = true) : k + 1 ≤ 60 := by
  obtain ⟨-, -, h5, -, -, -, -, -, h11⟩ := h
  have n0 := hN.1.2
  have hm2 := h5 m hm
  have r := smN_up (f := fun j => if bit S j = true then 1 else 0) (c := m) (v := 1) (nn R 0) hm2.1
  rw [if_neg (by rw [hm2.2]; decide)] at r
  have q := smN_le (f := va_up (fun j => if bit S j = true then 1 else 0) m 1) (g := fun _ => 1) (nn R 0) (fun j _ => by
    unfold va_up
    split
    · exact Nat.le_refl _
    · show (if bit S j = true then 1 else 0) ≤ 1
      split <;> omega)
  rw [smN_const] at q
  omega
theorem meas_loop (hN2 : 300 ≤ N) (hK : KS sh z) (hw : OWS ow z) (hN : WN R) (hW : WS R) (hS : SPN d0 z) (hT : TB sh d0 z ow 4 9 (nn R 1) (vS R) L) (hH : HopOK d0 z R) (hg : g < 60) : ∀ (p k fu : Nat) (d : Dt) (f : Nat → Nat) (S B : Int64), k + p = 60 → p < fu → MGr z g d0 d → (∀ a, a < 60 → d.1 (z + (141 + g)) a = nI (f a)) → DJ R g f S B k → Rn (f_X10_measure_27 N sh fu (z + 77) (z + (141 + g)) B S (nI k) d) (fun d' => MGr z g d0 d' ∧ ∀ a, a < 60 → dOK R 1000000000 a g (d'.1 (z + (141 + g)) a))
  | 0, k, fu, d, f, S, B, hk, hfu, hM, hrow, hJ => by
    obtain ⟨fu, rfl⟩ : ∃ q, fu = q + 1 := ⟨fu - 1, by omega⟩
    show Rn (g_X10_measure_27 N sh (f_X10_measure_27 N sh fu) (z + 77) (z + (141 + g)) B S (nI k) d) _
    unfold g_X10_measure_27
    refine rn_t ((nI_leI (a := 60) (by omega) (by omega)).mpr (by omega)) ?_
    have hB0 : B = 0 := by
      by_cases h0 : B = 0
      · exact h0
      · obtain ⟨c, hc, c1, c2⟩ := bit_ex h0
        have := dj_room hN hJ c1
        omega
    subst hB0
    refine rn_some ⟨hM, fun a ha => ?_⟩
    rw [hrow a ha]
    exact dj_end hN hW hJ (by omega) a ha
  | p + 1, k, fu, d, f, S, B, hk, hfu, hM, hrow, hJ => by
    obtain ⟨fu, rfl⟩ : ∃ q, fu = q + 1 := ⟨fu - 1, by omega⟩
    have ih := meas_loop hN2 hK hw hN hW hS hT hH hg p (k + 1) fu
    show Rn (g_X10_measure_27 N sh (f_X10_measure_27 N sh fu) (z + 77) (z + (141 + g)) B S (nI k) d) _
    unfold g_X10_measure_27
    refine rn_f (nI_ge (b := 60) (by omega) (by decide)) ?_
    by_cases h0 : B = 0
    · refine rn_t (cmp0.mpr h0) ?_
      subst h0
      refine rn_some ⟨hM, fun a ha => ?_⟩
      rw [hrow a ha]
      exact dj_end hN hW hJ (by omega) a ha
    · refine rn_f (fun q => h0 (cmp0.mp q)) ?_
      have n0 := hN.1.2
      have n1 := hN.2.1.2
      have hBn : ∀ j, bit B j = true → j < 60 := fun j q => by
        have := (hJ.2.2.1 j q).1
        omega
      have hfb : ∀ a, a < 60 → f a ≤ 1000000000 := fun a ha => by
        by_cases q : bit S a = true ∨ bit B a = true
        · have := hJ.2.2.2.1 a ha q
          omega
        · have := hJ.2.2.2.2.1 a ha (bool_f (fun r => q (Or.inl r))) (bool_f (fun r => q (Or.inr r)))
          omega
      refine rn_bind (k_nearestOf (by omega) (ks_a hK (141 + g) 0 60 (ck_gap hg)) (fun a ha => ⟨hrow a ha, hfb a ha⟩) hBn h0) (fun r hr => ?_)
      obtain ⟨m, rfl, hm, hmin⟩ := hr
      have hm60 := hBn m hm
      refine r_gP hK 77 10 2 139 rfl (by decide) ?_
      refine rn_eq (q_aJ (ks_a hK 139 1 60 rfl) m rfl hm60 (by decide)) ?_
      have hI : d.2.1 (z + 139) m = d0.2.1 (z + 139) m := by rw [hM.1]
      rw [hI]
      have hIb : ∀ a, bit (d0.2.1 (z + 139) m) a = true ↔ ∃ s, a < 60 ∧ edge R s a m := fun a => by
        rcases Nat.lt_or_ge a 60 with q | q
        · rw [(hH.1 a m q hm60).2]
          exact ⟨fun ⟨s, hs⟩ => ⟨s, q, hs⟩, fun ⟨s, _, hs⟩ => ⟨s, hs⟩⟩
        · rw [hH.2 a m hm60 q]
          exact ⟨fun r => (by cases r), fun ⟨s, r, _⟩ => absurd r (by omega)⟩
      have hhop : ∀ a, bit (d0.2.1 (z + 139) m) a = true → ∃ s, d0.1 (z + (79 + a)) m = nI s ∧ edge R s a m ∧ ∀ s', edge R s' a m → sln R s ≤ sln R s' := fun a q => by
        obtain ⟨s0, ha, he⟩ := (hIb a).mp q
        rcases (hH.1 a m ha hm60).1 with ⟨_, q2⟩ | ⟨s, q1, q2, q3⟩
        · exact absurd he (q2 s0)
        · exact ⟨s, q1, q2, fun s' hs' => by have := q3 s' hs'; omega⟩
      have hmb := hJ.2.2.2.1 m hm60 (Or.inr hm)
      refine relax_loop (d0 := d) (f0 := f) (ml := fun a => sln R (d0.1 (z + (79 + a)) m).toNatClampNeg) (fr0 := d0.2.1 (z + 139) m &&& ((S ||| bt m) ^^^ (-1))) hK hw hN hW hg hm60 ?_ (fun a q => ?_) hfb (by omega) (hS.wfr (hM.wfr hg)) (tb_wfr hK hw (by decide) hT (hM.wfr hg) (by omega)) (fun d' f' M' hrow' hf' => ?_) 60 0 N d f _ (by omega) (by omega) MGr.rf hrow (fun a ha => ?_) (fun a q => ⟨q, Nat.zero_le _⟩)
      · rw [bit_and, bit_not (by omega), bit_or, bit_bt hm60]
        simp
      · rw [bit_and, Bool.and_eq_true] at q
        obtain ⟨s0, ha, he⟩ := (hIb a).mp q.1
        obtain ⟨s, q1, q2, q3⟩ := hhop a q.1
        refine ⟨ha, s, q2.1, by rw [hM.2 (z + (79 + a)) (by omega)]; exact q1, ?_⟩
        show sln R s = sln R (d0.1 (z + (79 + a)) m).toNatClampNeg
        have := q2.1
        rw [q1, nI_clamp (by omega)]
      · rw [nI_1]
        refine ih d' f' _ _ (by omega) (by omega) (hM.tr M') hrow' ?_
        refine dj_step hN hW hJ hm hmin hIb (ml := fun a => sln R (d0.1 (z + (79 + a)) m).toNatClampNeg) (fun a q => ?_) hf'
        obtain ⟨s, q1, q2, q3⟩ := hhop a q
        refine ⟨s, q2, ?_, q3⟩
        show sln R (d0.1 (z + (79 + a)) m).toNatClampNeg = sln R s
        have := q2.1
        rw [q1, nI_clamp (by omega)]
      · by_cases q : bit (d0.2.1 (z + 139) m &&& ((S ||| bt m) ^^^ (-1))) a = true
        · rw [if_neg (fun r => absurd (q.symm.trans r.2) (by decide))]
        · rw [if_neg (fun r => q r.1)]
theorem k_measure (hN2 : 300 ≤ N) (hK : KS sh z) (hw : OWS ow z) (hN : WN R) (hW : WS R) (hS : SPN d z) (hT : TB sh d z ow 4 9 (nn R 1) (vS R) L) (hH : HopOK d z R) (hg : g < nn R 0) : Rn (f_X10_measure N sh (z + 77) (nI g) d) (fun d' => MGr z g d d' ∧ ∀ a, a < 60 → dOK R 1000000000 a g (d'.1 (z + (141 + g)) a)) := by
  have n0 := hN.1.2
  have hR := ks_a hK (141 + g) 0 60 (ck_gap (by omega))
  unfold f_X10_measure
  refine rn_t (ks_o hK 77 10 rfl) ?_
  refine r_gP hK 77 10 3 140 rfl (by decide) ?_
  refine rn_eq (q_aQ (ks_a hK 140 5 60 rfl) g (z + (141 + g)) rfl (by omega) (by decide) (hS.2 g (by omega))) ?_
  refine rn_eq (fill_eq hR (by decide) (by omega)) ?_
  refine rn_eq (q_sI hR g rfl (by omega) (by decide)) ?_
  refine meas_loop (d0 := d) hN2 hK hw hN hW hS hT hH (by omega) 60 0 N _ (fun a => if a = g then 0 else 1000000000) 0 (bt g) (by omega) (by omega) ⟨rfl, fun a q => ?_⟩ (fun a ha => ?_) (dj_0 hg hN)
  · rw [wI_n q]
    exact va_up_n q
  · rw [wI_s]
    show va_up (va_up d.1 (z + (141 + g)) (fun k => if k < 60 then 1000000000 else d.1 (z + (141 + g)) k) (z + (141 + g))) g 0 a = nI (if a = g then 0 else 1000000000)
    rw [va_up_s]
    by_cases e : a = g
    · rw [e, va_up_s, if_pos rfl]
      rfl
    · rw [va_up_n e, if_pos ha, if_neg e]
      rfl
end ME2
