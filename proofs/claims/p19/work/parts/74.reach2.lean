def lost (R : Nat → Int32) (T : Nat → Nat) (c y : Nat) : Prop := ¬ rch R T c y ∧ ∃ s, s < nn R 1 ∧ 0 < T s ∧ (eA R s = y ∨ eB R s = y)
section RC2
variable {β : Type} {sh : Sh} {d d0 d' : Dt} {z : Nat} {R K : Nat → Int32} {N c y : Nat} {T C : Nat → Nat}
theorem tm_pos {s : Nat} (hT : TM z R d T) (hs : s < nn R 1) : d.1 (z + 251) s ≤ 0 ↔ T s = 0 := by
  obtain ⟨h1, h2⟩ := hT s hs
  rw [h1]
  rcases Nat.eq_zero_or_pos (T s) with q | q
  · rw [q]
    exact ⟨fun _ => rfl, fun _ => by decide⟩
  · exact ⟨fun r => absurd r (nI_nle q (by omega)), fun r => by omega⟩
theorem more_loop (hK : KS sh z) (hN : WN R) (hW : WS R) (hA : AG (d.1 (z + 243)) R) (hT : TM z R d T) (hC : CM d z (rch R T c)) : ∀ (m i fu : Nat) (v : Int32), i + m = nn R 1 → m < fu → ((v = 0 ∧ ∀ s, s < i → 0 < T s → rch R T c (eA R s)) ∨ (v = 1 ∧ ¬ conn R T c)) → Rn (f_X12_hasMore_4 N sh d fu (z + 242) (z + 251) v (nI i)) (fun r => (r = 0 ∧ conn R T c) ∨ (r = 1 ∧ ¬ conn R T c))
  | 0, i, fu, v, hi, hf, hv => by
    obtain ⟨fu, rfl⟩ : ∃ q, fu = q + 1 := ⟨fu - 1, by omega⟩
    show Rn (g_X12_hasMore_4 N sh (f_X12_hasMore_4 N sh d fu) (z + 242) (z + 251) v (nI i) d) _
    have n1 := hN.2.1
    unfold g_X12_hasMore_4
    refine rdg hK hA 1 rfl (by decide) ?_
    rw [n1.1]
    refine rn_t ((nI_leI (by omega) (by omega)).mpr (by omega)) ?_
    unfold f_X12_hasMore_57
    have e : i = nn R 1 := by omega
    subst e
    rcases hv with ⟨rfl, hv⟩ | ⟨rfl, hv⟩
    · exact ⟨0, rfl, Or.inl ⟨rfl, hv⟩⟩
    · exact ⟨1, rfl, Or.inr ⟨rfl, hv⟩⟩
  | m + 1, i, fu, v, hi, hf, hv => by
    obtain ⟨fu, rfl⟩ : ∃ q, fu = q + 1 := ⟨fu - 1, by omega⟩
    have ih := more_loop hK hN hW hA hT hC m (i + 1) fu
    show Rn (g_X12_hasMore_4 N sh (f_X12_hasMore_4 N sh d fu) (z + 242) (z + 251) v (nI i) d) _
    have n0 := hN.1.2
    have n1 := hN.2.1
    have his : i < nn R 1 := by omega
    obtain ⟨e7, a2, e8, b2, hne⟩ := ws_e hW hN his
    unfold g_X12_hasMore_4 f_X12_hasMore_45 f_X12_hasMore_49 f_X12_hasMore_50
    refine rdg hK hA 1 rfl (by decide) ?_
    rw [n1.1, nI_1]
    refine rn_f (nI_ge his (by omega)) ?_
    rcases hv with ⟨rfl, hv⟩ | ⟨rfl, hv⟩
    · refine rn_f (fun q => q rfl) ?_
      refine rn_eq (q_aT (ks_a hK 251 0 150 rfl) i rfl (by omega) (by decide)) ?_
      refine rn_ite (fun h1 => ?_) (fun h1 => ?_)
      · have h1 := (tm_pos hT his).mp h1
        refine ih 0 (by omega) (by omega) (Or.inl ⟨rfl, fun s hs hp => ?_⟩)
        by_cases e : s = i
        · rw [e, h1] at hp
          omega
        · exact hv s (by omega) hp
      · have h1 : 0 < T i := by
          have : ¬ T i = 0 := fun q => h1 ((tm_pos hT his).mpr q)
          omega
        refine r_gP hK 242 12 17 253 rfl (by decide) ?_
        refine rds hK hA 7 (by omega) (by decide) rfl ?_
        rw [e7]
        refine rn_eq (q_aT (ks_a hK 253 4 60 rfl) (eA R i) rfl (by omega) (by decide)) ?_
        rcases hC (eA R i) (by omega) with ⟨q1, q2⟩ | ⟨q1, q2⟩
        · refine rn_t (by rw [q1]; decide) ?_
          refine ih 0 (by omega) (by omega) (Or.inl ⟨rfl, fun s hs hp => ?_⟩)
          by_cases e : s = i
          · rw [e]
            exact q2
          · exact hv s (by omega) hp
        · refine rn_f (fun q => q q1) ?_
          exact ih 1 (by omega) (by omega) (Or.inr ⟨rfl, fun r => q2 (r i his h1)⟩)
    · refine rn_t (by decide) ?_
      exact ih 1 (by omega) (by omega) (Or.inr ⟨rfl, hv⟩)
theorem m_hasMore (hN1 : 151 ≤ N) (hK : KS sh z) (hN : WN R) (hW : WS R) (hA : AG (d.1 (z + 243)) R) (hT : TM z R d T) (hC : CM d z (rch R T c)) : Rn (f_X12_hasMore N sh (z + 242) (z + 251) d) (fun r => (r = 0 ∧ conn R T c) ∨ (r = 1 ∧ ¬ conn R T c)) := by
  have n1 := hN.2.1.2
  unfold f_X12_hasMore
  refine rn_t (ks_o hK 242 12 rfl) ?_
  exact more_loop hK hN hW hA hT hC (nn R 1) 0 N 0 (by omega) (by omega) (Or.inl ⟨rfl, fun s hs => absurd hs (Nat.not_lt_zero s)⟩)
theorem apart_loop (hK : KS sh z) (hN : WN R) (hW : WS R) (hA : AG (d.1 (z + 243)) R) (hT : TM z R d T) (hC : CM d z (rch R T c)) (hy : y < 60) : ∀ (m i fu : Nat) (v : Int32), i + m = nn R 1 → m < fu → ((v = 0 ∧ ∀ s, s < i → 0 < T s → rch R T c y ∨ ¬ (eA R s = y ∨ eB R s = y)) ∨ (v = 1 ∧ lost R T c y)) → Rn (f_X12_isApart_4 N sh d fu (z + 242) (nI y) v (nI i)) (fun r => (r = 0 ∧ ¬ lost R T c y) ∨ (r = 1 ∧ lost R T c y))
  | 0, i, fu, v, hi, hf, hv => by
    obtain ⟨fu, rfl⟩ : ∃ q, fu = q + 1 := ⟨fu - 1, by omega⟩
    show Rn (g_X12_isApart_4 N sh (f_X12_isApart_4 N sh d fu) (z + 242) (nI y) v (nI i) d) _
    have n1 := hN.2.1
    unfold g_X12_isApart_4
    refine rdg hK hA 1 rfl (by decide) ?_
    rw [n1.1]
    refine rn_t ((nI_leI (by omega) (by omega)).mpr (by omega)) ?_
    unfold f_X12_isApart_82
    have e : i = nn R 1 := by omega
    subst e
    rcases hv with ⟨rfl, hv⟩ | ⟨rfl, hv⟩
    · refine ⟨0, rfl, Or.inl ⟨rfl, fun q => ?_⟩⟩
      obtain ⟨q1, s, q2, q3, q4⟩ := q
      exact (hv s q2 q3).elim q1 (fun r => r q4)
    · exact ⟨1, rfl, Or.inr ⟨rfl, hv⟩⟩
  | m + 1, i, fu, v, hi, hf, hv => by
    obtain ⟨fu, rfl⟩ : ∃ q, fu = q + 1 := ⟨fu - 1, by omega⟩
    have ih := apart_loop hK hN hW hA hT hC hy m (i + 1) fu
    show Rn (g_X12_isApart_4 N sh (f_X12_isApart_4 N sh d fu) (z + 242) (nI y) v (nI i) d) _
    have n0 := hN.1.2
    have n1 := hN.2.1
    have his : i < nn R 1 := by omega
    obtain ⟨e7, a2, e8, b2, hne⟩ := ws_e hW hN his
    unfold g_X12_isApart_4 f_X12_isApart_70 f_X12_isApart_74 f_X12_isApart_75
    refine rdg hK hA 1 rfl (by decide) ?_
    rw [n1.1, nI_1]
    refine rn_f (nI_ge his (by omega)) ?_
    rcases hv with ⟨rfl, hv⟩ | ⟨rfl, hv⟩
    · have skip : (0 < T i → rch R T c y ∨ ¬ (eA R i = y ∨ eB R i = y)) → Rn (f_X12_isApart_4 N sh d fu (z + 242) (nI y) 0 (nI (i + 1))) (fun r => (r = 0 ∧ ¬ lost R T c y) ∨ (r = 1 ∧ lost R T c y)) := fun hs9 => by
        refine ih 0 (by omega) (by omega) (Or.inl ⟨rfl, fun s hs hp => ?_⟩)
        by_cases e : s = i
        · rw [e] at hp ⊢
          exact hs9 hp
        · exact hv s (by omega) hp
      refine rn_f (fun q => q rfl) ?_
      refine r_gP hK 242 12 14 251 rfl (by decide) ?_
      refine rn_eq (q_aT (ks_a hK 251 0 150 rfl) i rfl (by omega) (by decide)) ?_
      refine rn_ite (fun h1 => ?_) (fun h1 => ?_)
      · have h1 := (tm_pos hT his).mp h1
        exact skip (fun q => by omega)
      · have h1 : 0 < T i := by
          have : ¬ T i = 0 := fun q => h1 ((tm_pos hT his).mpr q)
          omega
        refine r_gP hK 242 12 17 253 rfl (by decide) ?_
        refine rn_eq (q_aT (ks_a hK 253 4 60 rfl) y rfl (by omega) (by decide)) ?_
        rcases hC y hy with ⟨q1, q2⟩ | ⟨q1, q2⟩
        · refine rn_t (by rw [q1]; decide) ?_
          exact skip (fun _ => Or.inl q2)
        · refine rn_f (fun q => q q1) ?_
          refine rds hK hA 7 (by omega) (by decide) rfl ?_
          rw [e7]
          refine rn_ite (fun h2 => ?_) (fun h2 => ?_)
          · exact ih 1 (by omega) (by omega) (Or.inr ⟨rfl, q2, i, his, h1, Or.inl (nI_inj h2 (by omega) (by omega))⟩)
          · refine rds hK hA 8 (by omega) (by decide) rfl ?_
            rw [e8]
            refine rn_ite (fun h3 => ?_) (fun h3 => ?_)
            · exact skip (fun _ => Or.inr (fun q => q.elim (fun q => h2 (by rw [q])) (fun q => h3 (by rw [q]))))
            · exact ih 1 (by omega) (by omega) (Or.inr ⟨rfl, q2, i, his, h1, Or.inr (nI_inj (Decidable.of_not_not h3) (by omega) (by omega))⟩)
    · refine rn_t (by decide) ?_
      exact ih 1 (by omega) (by omega) (Or.inr ⟨rfl, hv⟩)
theorem m_isApart (hN1 : 151 ≤ N) (hK : KS sh z) (hN : WN R) (hW : WS R) (hA : AG (d.1 (z + 243)) R) (hT : TM z R d T) (hC : CM d z (rch R T c)) (hy : y < 60) : Rn (f_X12_isApart N sh (z + 242) (nI y) d) (fun r => (r = 0 ∧ ¬ lost R T c y) ∨ (r = 1 ∧ lost R T c y)) := by
  have n1 := hN.2.1.2
  unfold f_X12_isApart
  refine rn_t (ks_o hK 242 12 rfl) ?_
  exact apart_loop hK hN hW hA hT hC hy (nn R 1) 0 N 0 (by omega) (by omega) (Or.inl ⟨rfl, fun s hs => absurd hs (Nat.not_lt_zero s)⟩)
/-! the class: its planner at z + 221 -/
def PL (d : Dt) (z : Nat) (R : Nat → Int32) (T : Nat → Nat) : Prop := d.1 (z + 221) 8 = nI (nn R 1) ∧ ∀ s, s < nn R 1 → d.1 (z + 230) s = nI (eA R s) ∧ d.1 (z + 231) s = nI (eB R s) ∧ d.1 (z + 232) s = nI (T s) ∧ T s < 2 ^ 30
def NF (z : Nat) (d d' : Dt) : Prop := d'.1 = d.1 ∧ d'.2.2 = d.2.2 ∧ ∀ a, a ≠ z + 234 → d'.2.1 a = d.2.1 a
theorem NF.rf : NF z d d := ⟨rfl, rfl, fun _ _ => rfl⟩
theorem NF.w {k : Nat} {v : Int64} (h : NF z d d') : NF z d (wJ d' (z + 234) k v) := ⟨h.1, h.2.1, fun a q => (up2_n q).trans (h.2.2 a q)⟩
theorem NF.tr {d1 d2 : Dt} (h1 : NF z d d1) (h2 : NF z d1 d2) : NF z d d2 := ⟨h2.1.trans h1.1, h2.2.1.trans h1.2.1, fun a q => (h2.2.2 a q).trans (h1.2.2 a q)⟩
def adjI (R : Nat → Int32) (T : Nat → Nat) (i u v : Nat) : Prop := ∃ s, s < i ∧ 0 < T s ∧ ((eA R s = u ∧ eB R s = v) ∨ (eA R s = v ∧ eB R s = u))
def tchI (R : Nat → Int32) (T : Nat → Nat) (i v : Nat) : Prop := ∃ s, s < i ∧ 0 < T s ∧ (eA R s = v ∨ eB R s = v)
def LKQ (z : Nat) (R : Nat → Int32) (T : Nat → Nat) (d : Dt) (r : Int64 × Dt) : Prop := NF z d r.2 ∧ (∀ u v, u < 60 → (bit (r.2.2.1 (z + 234) u) v = true ↔ adj R T u v)) ∧ ∀ v, bit r.1 v = true ↔ tchI R T (nn R 1) v
theorem pl_pos {s : Nat} (hP : PL d z R T) (hs : s < nn R 1) : d.1 (z + 232) s ≤ 0 ↔ T s = 0 := by
  obtain ⟨-, -, h1, h2⟩ := hP.2 s hs
  rw [h1]
  rcases Nat.eq_zero_or_pos (T s) with q | q
  · rw [q]
    exact ⟨fun _ => rfl, fun _ => by decide⟩
  · exact ⟨fun r => absurd r (nI_nle q (by omega)), fun r => by omega⟩
theorem look_loop (hK : KS sh z) (hN : WN R) (hW : WS R) (hP : PL d0 z R T) : ∀ (m i fu : Nat) (x : Int64) (d : Dt), i + m = nn R 1 → m < fu → NF z d0 d → (∀ u v, u < 60 → (bit (d.2.1 (z + 234) u) v = true ↔ adjI R T i u v)) → (∀ v, bit x v = true ↔ tchI R T i v) → Rn (f_X5_lookAtLeft_12 N sh fu (z + 221) x (nI i) d) (LKQ z R T d0)
  | 0, i, fu, x, d, hi, hf, hM, h1, h2 => by
    obtain ⟨fu, rfl⟩ : ∃ q, fu = q + 1 := ⟨fu - 1, by omega⟩
    show Rn (g_X5_lookAtLeft_12 N sh (f_X5_lookAtLeft_12 N sh fu) (z + 221) x (nI i) d) _
    have n1 := hN.2.1.2
    unfold g_X5_lookAtLeft_12
    refine r_gI hK (i := 221) (c := 5) rfl ?_
    rw [hM.1, hP.1]
    refine rn_t ((nI_leI (by omega) (by omega)).mpr (by omega)) ?_
    have e : i = nn R 1 := by omega
    subst e
    exact rn_some ⟨hM, h1, h2⟩
  | m + 1, i, fu, x, d, hi, hf, hM, h1, h2 => by
    obtain ⟨fu, rfl⟩ : ∃ q, fu = q + 1 := ⟨fu - 1, by omega⟩
    have ih := look_loop hK hN hW hP m (i + 1) fu
    show Rn (g_X5_lookAtLeft_12 N sh (f_X5_lookAtLeft_12 N sh fu) (z + 221) x (nI i) d) _
    have n0 := hN.1.2
    have n1 := hN.2.1.2
    have his : i < nn R 1 := by omega
    obtain ⟨e7, a2, e8, b2, hne⟩ := ws_e hW hN his
    obtain ⟨pa, pb, pt, pt2⟩ := hP.2 i his
    have hJ := ks_a hK 234 1 60 rfl
    unfold g_X5_lookAtLeft_12 f_X5_lookAtLeft_85
    refine r_gI hK (i := 221) (c := 5) rfl ?_
    rw [hM.1, hP.1, nI_1]
    refine rn_f (nI_ge his (by omega)) ?_
    refine r_gP hK 221 5 9 232 rfl (by decide) ?_
    refine rn_eq (q_aT (ks_a hK 232 0 150 rfl) i rfl (by omega) (by decide)) ?_
    rw [hM.1]
    refine rn_ite (fun q0 => ?_) (fun q0 => ?_)
    · have q0 := (pl_pos hP his).mp q0
      refine ih x d (by omega) (by omega) hM (fun u v hu => ?_) (fun v => ?_)
      · rw [h1 u v hu]
        refine ⟨fun ⟨s, r1, r2, r3⟩ => ⟨s, by omega, r2, r3⟩, fun ⟨s, r1, r2, r3⟩ => ⟨s, ?_, r2, r3⟩⟩
        by_cases e : s = i
        · rw [e, q0] at r2
          omega
        · omega
      · rw [h2 v]
        refine ⟨fun ⟨s, r1, r2, r3⟩ => ⟨s, by omega, r2, r3⟩, fun ⟨s, r1, r2, r3⟩ => ⟨s, ?_, r2, r3⟩⟩
        by_cases e : s = i
        · rw [e, q0] at r2
          omega
        · omega
    · have q0 : 0 < T i := by
        have : ¬ T i = 0 := fun q => q0 ((pl_pos hP his).mpr q)
        omega
      refine r_gP hK 221 5 6 230 rfl (by decide) ?_
      refine rn_eq (q_aT (ks_a hK 230 0 150 rfl) i rfl (by omega) (by decide)) ?_
      refine r_gP hK 221 5 7 231 rfl (by decide) ?_
      refine rn_eq (q_aT (ks_a hK 231 0 150 rfl) i rfl (by omega) (by decide)) ?_
      rw [hM.1, pa, pb]
      refine r_gP hK 221 5 11 234 rfl (by decide) ?_
      refine rn_eq (q_aJ hJ (eA R i) rfl (by omega) (by decide)) ?_
      refine rn_eq (q_sJ hJ (eA R i) rfl (by omega) (by decide)) ?_
      refine r_gP hK 221 5 11 234 rfl (by decide) ?_
      refine rn_eq (q_aJ hJ (eB R i) rfl (by omega) (by decide)) ?_
      refine rn_eq (q_sJ hJ (eB R i) rfl (by omega) (by decide)) ?_
      refine ih _ _ (by omega) (by omega) hM.w.w (fun u v hu => ?_) (fun v => ?_)
      · have e : (wJ (wJ d (z + 234) (eA R i) (d.2.1 (z + 234) (eA R i) ||| bt (eB R i))) (z + 234) (eB R i) ((wJ d (z + 234) (eA R i) (d.2.1 (z + 234) (eA R i) ||| bt (eB R i))).2.1 (z + 234) (eB R i) ||| bt (eA R i))).2.1 (z + 234) u = if u = eB R i then d.2.1 (z + 234) (eB R i) ||| bt (eA R i) else if u = eA R i then d.2.1 (z + 234) (eA R i) ||| bt (eB R i) else d.2.1 (z + 234) u := by
          show up2 (up2 d.2.1 (z + 234) (eA R i) (d.2.1 (z + 234) (eA R i) ||| bt (eB R i))) (z + 234) (eB R i) (up2 d.2.1 (z + 234) (eA R i) (d.2.1 (z + 234) (eA R i) ||| bt (eB R i)) (z + 234) (eB R i) ||| bt (eA R i)) (z + 234) u = _
          rw [up2_s, up2_s, va_up_n (fun e => hne e.symm)]
          by_cases c1 : u = eB R i
          · rw [if_pos c1, c1, va_up_s]
          · rw [if_neg c1, va_up_n c1]
            by_cases c2 : u = eA R i
            · rw [if_pos c2, c2, va_up_s]
            · rw [if_neg c2, va_up_n c2]
        refine Iff.trans (Iff.of_eq (congrArg (fun w => bit w v = true) e)) ?_
        have old : adjI R T i u v → adjI R T (i + 1) u v := fun ⟨s, r1, r2, r3⟩ => ⟨s, by omega, r2, r3⟩
        have dec : adjI R T (i + 1) u v → adjI R T i u v ∨ ((eA R i = u ∧ eB R i = v) ∨ (eA R i = v ∧ eB R i = u)) := fun ⟨s, r1, r2, r3⟩ => by
          by_cases es : s = i
          · rw [es] at r3
            exact Or.inr r3
          · exact Or.inl ⟨s, by omega, r2, r3⟩
        by_cases c1 : u = eB R i
        · rw [if_pos c1, bit_or, bit_bt (by omega), Bool.or_eq_true, ← c1, h1 u v hu, decide_eq_true_iff]
          refine ⟨fun q => q.elim old (fun q => ⟨i, by omega, q0, Or.inr ⟨q, c1.symm⟩⟩), fun q => ?_⟩
          rcases dec q with q | q
          · exact Or.inl q
          · rcases q with q | q
            · exact absurd (q.1.trans c1) hne
            · exact Or.inr q.1
        · rw [if_neg c1]
          by_cases c2 : u = eA R i
          · rw [if_pos c2, bit_or, bit_bt (by omega), Bool.or_eq_true, ← c2, h1 u v hu, decide_eq_true_iff]
            refine ⟨fun q => q.elim old (fun q => ⟨i, by omega, q0, Or.inl ⟨c2.symm, q⟩⟩), fun q => ?_⟩
            rcases dec q with q | q
            · exact Or.inl q
            · rcases q with q | q
              · exact Or.inr q.2
              · exact absurd q.2.symm c1
          · rw [if_neg c2, h1 u v hu]
            refine ⟨old, fun q => ?_⟩
            rcases dec q with q | q
            · exact q
            · rcases q with q | q
              · exact absurd q.1.symm c2
              · exact absurd q.2.symm c1
      · rw [bit_or, bit_or]
        refine Iff.trans (b := bit x v = true ∨ (eA R i = v ∨ eB R i = v)) ?_ ?_
        · have e1 : bit ((1 : Int64) <<< ((nI (eA R i)).toInt64 &&& 63)) v = decide (eA R i = v) := bit_bt (by omega)
          have e2 : bit ((1 : Int64) <<< ((nI (eB R i)).toInt64 &&& 63)) v = decide (eB R i = v) := bit_bt (by omega)
          rw [e1, e2, Bool.or_eq_true, Bool.or_eq_true, decide_eq_true_iff, decide_eq_true_iff]
        · rw [h2 v]
          refine ⟨fun q => ?_, fun ⟨s, r1, r2, r3⟩ => ?_⟩
          · rcases q with ⟨s, r1, r2, r3⟩ | q
            · exact ⟨s, by omega, r2, r3⟩
            · exact ⟨i, by omega, q0, q⟩
          · by_cases es : s = i
            · rw [es] at r3
              exact Or.inr r3
            · exact Or.inl ⟨s, by omega, r2, r3⟩
theorem k_look (hN2 : 300 ≤ N) (hK : KS sh z) (hN : WN R) (hW : WS R) (hP : PL d z R T) : Rn (f_X5_lookAtLeft N sh (z + 221) d) (LKQ z R T d) := by
  have n1 := hN.2.1.2
  unfold f_X5_lookAtLeft
  refine rn_t (ks_o hK 221 5 rfl) ?_
  refine r_gP hK 221 5 11 234 rfl (by decide) ?_
  refine rn_eq (fillJ_eq (ks_a hK 234 1 60 rfl) (by decide) (by omega)) ?_
  refine look_loop hK hN hW hP (nn R 1) 0 N 0 _ (by omega) (by omega) ⟨rfl, rfl, fun a q => va_up_n q⟩ (fun u v hu => ?_) (fun v => ?_)
  · show bit (va_up d.2.1 (z + 234) (fun k => if k < 60 then 0 else d.2.1 (z + 234) k) (z + 234) u) v = true ↔ _
    rw [va_up_s, if_pos hu, bit_0]
    exact ⟨fun q => (by cases q), fun ⟨s, r1, _⟩ => absurd r1 (Nat.not_lt_zero s)⟩
  · rw [bit_0]
    exact ⟨fun q => (by cases q), fun ⟨s, r1, _⟩ => absurd r1 (Nat.not_lt_zero s)⟩
theorem reach_loop (hK : KS sh z) (hN : WN R) (hW : WS R) (hc : c < 60) (hJ : ∀ u v, u < 60 → (bit (d.2.1 (z + 234) u) v = true ↔ adj R T u v)) : ∀ (m k fu : Nat) (S D : Int64), k + m = 60 → m < fu → (∀ v, bit D v = true → bit S v = true) → (∀ v, bit S v = true → v < 60 ∧ rch R T c v) → bit S c = true → (∀ u v, bit S u = true → ¬ bit D u = true → adj R T u v → bit S v = true) → smN (fun j => if bit S j = true ∧ ¬ bit D j = true then 1 else 0) 60 = k → Rn (f_X5_reachedFrom_10 N sh d fu (z + 221) S D (nI k)) (fun r => ∀ v, bit r v = true ↔ rch R T c v)
  | 0, k, fu, S, D, hk, hf, h1, h2, h3, h4, h5 => by
    obtain ⟨fu, rfl⟩ : ∃ q, fu = q + 1 := ⟨fu - 1, by omega⟩
    show Rn (g_X5_reachedFrom_10 N sh (f_X5_reachedFrom_10 N sh d fu) (z + 221) S D (nI k) d) _
    unfold g_X5_reachedFrom_10
    refine rn_t ((nI_leI (a := 60) (by omega) (by omega)).mpr (by omega)) ?_
    have hD : ∀ v, ¬ bit D v = true := fun v hv => by
      have hv6 := (h2 v (h1 v hv)).1
      have r := smN_up (f := fun j => if bit S j = true ∧ ¬ bit D j = true then 1 else 0) (c := v) (v := 1) 60 hv6
      rw [if_neg (fun q => q.2 hv)] at r
      have q := smN_le (f := va_up (fun j => if bit S j = true ∧ ¬ bit D j = true then 1 else 0) v 1) (g := fun _ => 1) 60 (fun j _ => by
        unfold va_up
        split
        · exact Nat.le_refl _
        · show (if bit S j = true ∧ ¬ bit D j = true then 1 else 0) ≤ 1
          split <;> omega)
      rw [smN_const] at q
      omega
    exact rn_some (fun v => ⟨fun q => (h2 v q).2, fun q => rch_cl (P := fun x => bit S x = true) (fun a b ha hu => h4 a b hu (hD a) ha) q h3⟩)
  | m + 1, k, fu, S, D, hk, hf, h1, h2, h3, h4, h5 => by
    obtain ⟨fu, rfl⟩ : ∃ q, fu = q + 1 := ⟨fu - 1, by omega⟩
    have ih := reach_loop hK hN hW hc hJ m (k + 1) fu
    show Rn (g_X5_reachedFrom_10 N sh (f_X5_reachedFrom_10 N sh d fu) (z + 221) S D (nI k) d) _
    have n0 := hN.1.2
    unfold g_X5_reachedFrom_10
    refine rn_f (nI_ge (b := 60) (by omega) (by decide)) ?_
    by_cases h0 : D = 0
    · refine rn_t (cmp0.mpr h0) ?_
      have hD : ∀ v, ¬ bit D v = true := fun v hv => by
        rw [h0, bit_0] at hv
        cases hv
      exact rn_some (fun v => ⟨fun q => (h2 v q).2, fun q => rch_cl (P := fun x => bit S x = true) (fun a b ha hu => h4 a b hu (hD a) ha) q h3⟩)
    · refine rn_f (fun q => h0 (cmp0.mp q)) ?_
      obtain ⟨a, ha, c1, c2⟩ := bit_ex h0
      have haS := h2 a (h1 a c1)
      refine rn_eq (k_lowest c1 c2) ?_
      refine r_gP hK 221 5 11 234 rfl (by decide) ?_
      refine rn_eq (q_aJ (ks_a hK 234 1 60 rfl) a rfl haS.1 (by decide)) ?_
      refine r_gP hK 221 5 11 234 rfl (by decide) ?_
      refine rn_eq (q_aJ (ks_a hK 234 1 60 rfl) a rfl haS.1 (by decide)) ?_
      rw [nI_1]
      have hn := fun v => hJ a v haS.1
      have bS : ∀ v, bit (S ||| d.2.1 (z + 234) a) v = true ↔ (bit S v = true ∨ adj R T a v) := fun v => by
        rw [bit_or, Bool.or_eq_true, hn v]
      have bD : ∀ v, bit ((D &&& (D - 1)) ||| (d.2.1 (z + 234) a &&& (S ^^^ (-1)))) v = true ↔ ((bit D v = true ∧ v ≠ a) ∨ (adj R T a v ∧ ¬ bit S v = true)) := fun v => by
        rw [bit_or, Bool.or_eq_true, bit_clr c1 c2, bit_and, Bool.and_eq_true, Bool.and_eq_true, hn v]
        refine or_congr (and_congr Iff.rfl (by simp)) ⟨fun q => ⟨q.1, ?_⟩, fun q => ⟨q.1, ?_⟩⟩
        · have := q.2
          rw [bit_not (bit_big ((hn v).mpr q.1))] at this
          intro r
          rw [r] at this
          cases this
        · rw [bit_not (bit_big ((hn v).mpr q.1)), bool_f q.2]
          rfl
      refine ih _ _ (by omega) (by omega) (fun v q => ?_) (fun v q => ?_) ((bS c).mpr (Or.inl h3)) (fun u v q1 q2 q3 => ?_) ?_
      · rcases (bD v).mp q with r | r
        · exact (bS v).mpr (Or.inl (h1 v r.1))
        · exact (bS v).mpr (Or.inr r.1)
      · rcases (bS v).mp q with r | r
        · exact h2 v r
        · exact ⟨by have := (adj_lt hW hN r).2; omega, rch_step haS.2 r⟩
      · refine (bS v).mpr ?_
        by_cases e : u = a
        · rw [e] at q3
          exact Or.inr q3
        · rcases (bS u).mp q1 with r | r
          · exact Or.inl (h4 u v r (fun r2 => q2 ((bD u).mpr (Or.inl ⟨r2, e⟩))) q3)
          · by_cases r2 : bit S u = true
            · exact Or.inl (h4 u v r2 (fun r3 => q2 ((bD u).mpr (Or.inl ⟨r3, e⟩))) q3)
            · exact absurd ((bD u).mpr (Or.inr ⟨r, r2⟩)) q2
      · have e : (fun j => if bit (S ||| d.2.1 (z + 234) a) j = true ∧ ¬ bit ((D &&& (D - 1)) ||| (d.2.1 (z + 234) a &&& (S ^^^ (-1)))) j = true then 1 else 0) = va_up (fun j => if bit S j = true ∧ ¬ bit D j = true then 1 else 0) a 1 := funext fun j => by
          by_cases q : j = a
          · subst q
            rw [va_up_s, if_pos ⟨(bS j).mpr (Or.inl (h1 j c1)), fun r => ((bD j).mp r).elim (fun r => r.2 rfl) (fun r => r.2 (h1 j c1))⟩]
          · rw [va_up_n q]
            by_cases q1 : bit S j = true
            · by_cases q2 : bit D j = true
              · rw [if_neg (fun r => r.2 ((bD j).mpr (Or.inl ⟨q2, q⟩))), if_neg (fun r => r.2 q2)]
              · rw [if_pos ⟨(bS j).mpr (Or.inl q1), fun r => ((bD j).mp r).elim (fun r => q2 r.1) (fun r => r.2 q1)⟩, if_pos ⟨q1, q2⟩]
            · rw [if_neg (fun r => ((bS j).mp r.1).elim q1 (fun r2 => r.2 ((bD j).mpr (Or.inr ⟨r2, q1⟩)))), if_neg (fun r => q1 r.1)]
        have r := smN_up (f := fun j => if bit S j = true ∧ ¬ bit D j = true then 1 else 0) (c := a) (v := 1) 60 haS.1
        rw [if_neg (fun q => q.2 c1)] at r
        rw [e]
        omega
theorem k_reached (hN2 : 300 ≤ N) (hK : KS sh z) (hN : WN R) (hW : WS R) (hc : c < 60) (hJ : ∀ u v, u < 60 → (bit (d.2.1 (z + 234) u) v = true ↔ adj R T u v)) : Rn (f_X5_reachedFrom N sh (z + 221) (nI c) d) (fun r => ∀ v, bit r v = true ↔ rch R T c v) := by
  have hb : ∀ v, bit (bt c) v = true ↔ c = v := fun v => by
    rw [bit_bt hc, decide_eq_true_iff]
  unfold f_X5_reachedFrom
  refine rn_t (ks_o hK 221 5 rfl) ?_
  refine reach_loop (c := c) (T := T) hK hN hW hc hJ 60 0 N (bt c) (bt c) (by omega) (by omega) (fun v q => q) (fun v q => ?_) ((hb c).mpr rfl) (fun u v q1 q2 => absurd q1 q2) ?_
  · rw [← (hb v).mp q]
    exact ⟨hc, rch_rf⟩
  · have : (fun j => if bit (bt c) j = true ∧ ¬ bit (bt c) j = true then 1 else 0) = fun _ : Nat => 0 := funext fun j => if_neg (fun q => q.2 q.1)
    rw [this, smN_const]
end RC2
