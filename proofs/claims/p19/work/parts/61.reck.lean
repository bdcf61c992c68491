/-! the reference: reckon() -/
section RK
variable {β : Type} {Q : β → Prop} {sh : Sh} {d d0 : Dt} {z : Nat} {R K : Nat → Int32} {u : Bool} {N b : Nat} {f : Nat → Nat}
theorem rdg {g : Int32 → Option β} {x : Int32} (hK : KS sh z) (hA : AG (d.1 (z + 243)) R) (j : Nat) (hx : x = nI j) (hj : j < 15642) (kk : Rn (g (R j)) Q) : Rn ((gP sh (z + 242) 12 0).bind fun v => (aT 0 sh d v x).bind g) Q := by
  refine rd hK (R := d.1 (z + 243)) rfl j hx hj ?_
  rw [hA j hj]
  exact kk
/-- a STREET's cell, its row asked for first -/
theorem rds {g : Int32 → Option β} {x : Int32} {s : Nat} (hK : KS sh z) (hA : AG (d.1 (z + 243)) R) (k : Nat) (hs : s < 150) (hk : k < 9) (hx : x = nI k) (kk : Rn (g (R (16 + 9 * s + k))) Q) : Rn ((gP sh (z + 242) 12 0).bind fun v1 => (f_X12_st N sh (z + 242) (nI s) d).bind fun v2 => (aT 0 sh d v1 (v2 + x)).bind g) Q := by
  subst hx
  refine r_gP hK 242 12 0 243 rfl (by decide) ?_
  refine rn_eq (m_st hK) ?_
  refine rn_eq (q_aT (ks_a hK 243 0 15642 rfl) (16 + 9 * s + k) (ix_st s k) (by omega) (by decide)) ?_
  rw [hA _ (by omega)]
  exact kk
theorem m_isOpen {s : Nat} (hK : KS sh z) (hA : AG (d.1 (z + 243)) R) (hs : s < 150) : f_X12_isOpen N sh (z + 242) (nI s) d = some (if R (16 + 9 * s + 4) = 0 then 1 else 0) := by
  refine rn_val ?_
  unfold f_X12_isOpen
  refine rn_t (ks_o hK 242 12 rfl) ?_
  refine rds hK hA 4 hs (by decide) rfl ?_
  refine rn_ite (fun h1 => ?_) (fun h1 => ?_)
  · rw [if_neg h1]
    exact ⟨0, rfl, rfl⟩
  · rw [if_pos (Decidable.of_not_not h1)]
    exact ⟨1, rfl, rfl⟩
/-- where a STREET leads from v -/
def ldv (R : Nat → Int32) (s : Nat) (v : Int32) : Int32 := if R (16 + 9 * s + 7) = v then R (16 + 9 * s + 8) else if R (16 + 9 * s + 8) = v ∧ R (16 + 9 * s + 5) = 0 then R (16 + 9 * s + 7) else -1
theorem m_leads {s : Nat} {v : Int32} (hK : KS sh z) (hA : AG (d.1 (z + 243)) R) (hs : s < 150) : f_X12_leads N sh (z + 242) (nI s) v d = some (ldv R s v) := by
  refine rn_val ?_
  unfold f_X12_leads ldv
  refine rn_t (ks_o hK 242 12 rfl) ?_
  refine rn_eq (m_st hK) ?_
  refine rdg hK hA (16 + 9 * s + 7) (ix_st s 7) (by omega) ?_
  refine rn_ite (fun h1 => ?_) (fun h1 => ?_)
  · rw [if_neg h1]
    refine rdg hK hA (16 + 9 * s + 8) (ix_st s 8) (by omega) ?_
    refine rn_ite (fun h2 => ?_) (fun h2 => ?_)
    · rw [if_neg (fun q => h2 q.1)]
      exact ⟨_, rfl, rfl⟩
    · have h2 := Decidable.of_not_not h2
      refine rdg hK hA (16 + 9 * s + 5) (ix_st s 5) (by omega) ?_
      refine rn_ite (fun h3 => ?_) (fun h3 => ?_)
      · rw [if_neg (fun q => h3 q.2)]
        exact ⟨_, rfl, rfl⟩
      · rw [if_pos ⟨h2, Decidable.of_not_not h3⟩]
        refine rdg hK hA (16 + 9 * s + 7) (ix_st s 7) (by omega) ?_
        exact ⟨_, rfl, rfl⟩
  · rw [if_pos (Decidable.of_not_not h1)]
    refine rdg hK hA (16 + 9 * s + 8) (ix_st s 8) (by omega) ?_
    exact ⟨_, rfl, rfl⟩
/-- the lengths to b as they stand so far -/
def RX (d : Dt) (z : Nat) (R : Nat → Int32) (b : Nat) (f : Nat → Nat) : Prop := f b = 0 ∧ ∀ a, a < nn R 0 → d.1 (z + 247) (60 * a + b) = nI (f a) ∧ f a ≤ 2 ^ 28 ∧ (a ≠ b → f a < 2 ^ 28 → ∃ s c, c < nn R 0 ∧ edge R s a c ∧ sln R s + f c ≤ f a ∧ f c < 2 ^ 28)
/-- only lengths to b are touched -/
def MWb (z b : Nat) (d d' : Dt) : Prop := d'.2 = d.2 ∧ (∀ a, a ≠ z + 247 → d'.1 a = d.1 a) ∧ ∀ k, (∀ a, a < 60 → k ≠ 60 * a + b) → d'.1 (z + 247) k = d.1 (z + 247) k
theorem MWb.rf : MWb z b d d := ⟨rfl, fun _ _ => rfl, fun _ _ => rfl⟩
theorem MWb.tr {d1 d2 : Dt} (h1 : MWb z b d d1) (h2 : MWb z b d1 d2) : MWb z b d d2 := ⟨h2.1.trans h1.1, fun a q => (h2.2.1 a q).trans (h1.2.1 a q), fun k q => (h2.2.2 k q).trans (h1.2.2 k q)⟩
theorem MWb.w {a : Nat} {v : Int32} (ha : a < 60) : MWb z b d (wI d (z + 247) (60 * a + b) v) := ⟨rfl, fun c q => wI_n q, fun k q => by rw [wI_s, va_up_n (q a ha)]⟩
theorem MWb.ag {d' : Dt} (h : MWb z b d d') (hA : AG (d.1 (z + 243)) R) : AG (d'.1 (z + 243)) R := by
  rw [h.2.1 (z + 243) (by omega)]
  exact hA
theorem ix_far (a b : Nat) : (60 : Int32) * nI a + nI b = nI (60 * a + b) := by
  rw [show (60 : Int32) = nI 60 from rfl, pk_mul, nI_add]
theorem m_lessens {s a c : Nat} (hK : KS sh z) (hN : WN R) (hW : WS R) (hb : b < nn R 0) (ha : a < nn R 0) (hc : c < nn R 0) (he : edge R s a c) (hX : RX d z R b f) : Rn (f_X12_lessens N sh (z + 242) (nI a) (nI c) (nI (sln R s)) (nI b) d) (fun r => ∃ f1, RX r.2 z R b f1 ∧ MWb z b d r.2 ∧ ((r.1 = 0 ∧ f1 = f ∧ f a ≤ sln R s + f c) ∨ (r.1 = 1 ∧ smN f1 (nn R 0) < smN f (nn R 0)))) := by
  have n0 := hN.1.2
  have hl := edge_sln hW he
  have hA := ks_a hK 247 0 3600 rfl
  obtain ⟨xa, xa2, xa3⟩ := hX.2 a ha
  obtain ⟨xc, xc2, xc3⟩ := hX.2 c hc
  unfold f_X12_lessens
  refine rn_t (ks_o hK 242 12 rfl) ?_
  refine r_gP hK 242 12 9 247 rfl (by decide) ?_
  refine rn_eq (q_aT hA (60 * c + b) (ix_far c b) (by omega) (by decide)) ?_
  refine r_gP hK 242 12 9 247 rfl (by decide) ?_
  refine rn_eq (q_aT hA (60 * a + b) (ix_far a b) (by omega) (by decide)) ?_
  rw [xa, xc, nI_add]
  by_cases hle : f a ≤ f c + sln R s
  · refine rn_t ((nI_leI (by omega) (by omega)).mpr hle) ?_
    exact rn_some ⟨f, hX, MWb.rf, Or.inl ⟨rfl, rfl, by omega⟩⟩
  · refine rn_f (fun q => hle ((nI_leI (by omega) (by omega)).mp q)) ?_
    refine r_gP hK 242 12 9 247 rfl (by decide) ?_
    refine r_gP hK 242 12 9 247 rfl (by decide) ?_
    refine rn_eq (q_aT hA (60 * c + b) (ix_far c b) (by omega) (by decide)) ?_
    rw [xc, nI_add]
    refine rn_eq (q_sI hA (60 * a + b) (ix_far a b) (by omega) (by decide)) ?_
    have hab : a ≠ b := fun e => by
      rw [e, hX.1] at hle
      omega
    have hca : c ≠ a := fun e => by
      rw [e] at hle
      omega
    refine rn_some ⟨va_up f a (f c + sln R s), ⟨?_, fun x hx => ?_⟩, MWb.w (by omega), Or.inr ⟨rfl, ?_⟩⟩
    · rw [va_up_n (fun e => hab e.symm)]
      exact hX.1
    · show (wI d (z + 247) (60 * a + b) (nI (f c + sln R s))).1 (z + 247) (60 * x + b) = _ ∧ _
      rw [wI_s]
      obtain ⟨y1, y2, y3⟩ := hX.2 x hx
      by_cases e : x = a
      · subst e
        rw [va_up_s, va_up_s]
        refine ⟨rfl, by omega, fun _ _ => ⟨s, c, hc, he, ?_, ?_⟩⟩
        · rw [va_up_n hca]
          omega
        · rw [va_up_n hca]
          omega
      · rw [va_up_n (by omega), va_up_n e]
        refine ⟨y1, y2, fun q1 q2 => ?_⟩
        obtain ⟨t, e2, r1, r2, r3, r4⟩ := y3 q1 q2
        refine ⟨t, e2, r1, r2, ?_, ?_⟩
        · by_cases e3 : e2 = a
          · subst e3
            rw [va_up_s]
            omega
          · rw [va_up_n e3]
            exact r3
        · by_cases e3 : e2 = a
          · subst e3
            rw [va_up_s]
            omega
          · rw [va_up_n e3]
            exact r4
    · have := smN_up (f := f) (c := a) (v := f c + sln R s) (nn R 0) ha
      omega
theorem rt167 {k42 : Nat → Int32 → Int32 → Dt → Option Dt} {k50 : Nat → Int32 → Int32 → Int32 → Dt → Option Dt} {l0 : Nat} {l1 l2 l3 l5 t0 : Int32} : f_X12_reckonTo_167 N sh k42 k50 l0 l1 l2 l3 l5 t0 d = k50 l0 l1 (if l2 = 0 ∧ l5 = 0 ∧ t0 = 0 then 0 else 1) (l3 + 1) d := by
  unfold f_X12_reckonTo_167 f_X12_reckonTo_183 f_X12_reckonTo_188 f_X12_reckonTo_189
  by_cases h1 : l2 = 0
  · by_cases h2 : l5 = 0
    · by_cases h3 : t0 = 0
      · rw [if_neg (fun q => q h1), if_neg (fun q => q h2), if_pos h3, if_pos ⟨h1, h2, h3⟩]
      · rw [if_neg (fun q => q h1), if_neg (fun q => q h2), if_neg h3, if_neg (fun q => h3 q.2.2)]
    · rw [if_neg (fun q => q h1), if_pos h2, if_neg (fun q => h2 q.2.1)]
  · rw [if_pos h1, if_neg (fun q => h1 q.1)]
/-- no STREET below i lessens -/
def FE (R : Nat → Int32) (f : Nat → Nat) (i : Nat) : Prop := ∀ s a c, s < i → a < nn R 0 → c < nn R 0 → edge R s a c → f a ≤ sln R s + f c
theorem reck_pass {k42 : Nat → Int32 → Int32 → Dt → Option Dt} {Q : Dt → Prop} {f0 : Nat → Nat} (hK : KS sh z) (hN : WN R) (hW : WS R) (hA : AG (d0.1 (z + 243)) R) (hb : b < nn R 0)
    (hk : ∀ (v : Int32) (d' : Dt) (f' : Nat → Nat), RX d' z R b f' → MWb z b d0 d' → ((v = 0 ∧ smN f' (nn R 0) = smN f0 (nn R 0) ∧ FE R f' (nn R 1)) ∨ (v = 1 ∧ smN f' (nn R 0) < smN f0 (nn R 0))) → Rn (k42 (z + 242) (nI b) v d') Q) :
    ∀ (m i fu : Nat) (d : Dt) (f : Nat → Nat) (v : Int32), i + m = nn R 1 → m < fu → RX d z R b f → MWb z b d0 d → ((v = 0 ∧ smN f (nn R 0) = smN f0 (nn R 0) ∧ FE R f i) ∨ (v = 1 ∧ smN f (nn R 0) < smN f0 (nn R 0))) → Rn (f_X12_reckonTo_50 N sh k42 fu (z + 242) (nI b) v (nI i) d) Q
  | 0, i, fu, d, f, v, hi, hf, hX, hM, hv => by
    obtain ⟨fu, rfl⟩ : ∃ q, fu = q + 1 := ⟨fu - 1, by omega⟩
    show Rn (g_X12_reckonTo_50 N sh k42 (f_X12_reckonTo_50 N sh k42 fu) (z + 242) (nI b) v (nI i) d) Q
    have n1 := hN.2.1
    unfold g_X12_reckonTo_50
    refine rdg hK (hM.ag hA) 1 rfl (by decide) ?_
    rw [n1.1]
    have e : i = nn R 1 := by omega
    refine rn_t ((nI_leI (by omega) (by omega)).mpr (by omega)) ?_
    unfold f_X12_reckonTo_195
    refine hk v d f hX hM ?_
    rcases hv with hv | hv
    · exact Or.inl ⟨hv.1, hv.2.1, e ▸ hv.2.2⟩
    · exact Or.inr hv
  | m + 1, i, fu, d, f, v, hi, hf, hX, hM, hv => by
    obtain ⟨fu, rfl⟩ : ∃ q, fu = q + 1 := ⟨fu - 1, by omega⟩
    have ih := reck_pass hK hN hW hA hb hk m (i + 1) fu
    show Rn (g_X12_reckonTo_50 N sh k42 (f_X12_reckonTo_50 N sh k42 fu) (z + 242) (nI b) v (nI i) d) Q
    have n0 := hN.1.2
    have n1 := hN.2.1
    have his : i < nn R 1 := by omega
    have hAd := hM.ag hA
    unfold g_X12_reckonTo_50
    refine rdg hK hAd 1 rfl (by decide) ?_
    rw [n1.1]
    refine rn_f (nI_ge his (by omega)) ?_
    refine rn_eq (m_isOpen hK hAd (by omega)) ?_
    obtain ⟨⟨ea, eb, ea2, eb2, hne, e7, e8⟩, ⟨e6, hl1, hl2⟩, e5, e4, -⟩ := hW i his
    rcases e4 with e4 | e4
    · rw [if_pos e4]
      refine rn_f (by decide) ?_
      refine rn_eq (m_st hK) ?_
      refine rdg hK hAd (16 + 9 * i + 7) (ix_st i 7) (by omega) ?_
      refine rdg hK hAd (16 + 9 * i + 8) (ix_st i 8) (by omega) ?_
      refine rdg hK hAd (16 + 9 * i + 6) (ix_st i 6) (by omega) ?_
      rw [e7, e8, e6]
      have ed1 : edge R i ea eb := ⟨his, e4, Or.inl ⟨e7, e8⟩⟩
      refine rn_bind (m_lessens hK hN hW hb ea2 eb2 ed1 hX) (fun r hr => ?_)
      obtain ⟨f1, X1, M1, L1⟩ := hr
      have hM1 := hM.tr M1
      have hA1 := hM1.ag hA
      refine rdg hK hA1 (16 + 9 * i + 5) (ix_st i 5) (by omega) ?_
      rcases e5 with e5 | e5
      · refine rn_f (fun q => q e5) ?_
        refine rdg hK hA1 (16 + 9 * i + 8) (ix_st i 8) (by omega) ?_
        refine rdg hK hA1 (16 + 9 * i + 7) (ix_st i 7) (by omega) ?_
        refine rdg hK hA1 (16 + 9 * i + 6) (ix_st i 6) (by omega) ?_
        rw [e7, e8, e6]
        have ed2 : edge R i eb ea := ⟨his, e4, Or.inr ⟨e5, e8, e7⟩⟩
        refine rn_bind (m_lessens hK hN hW hb eb2 ea2 ed2 X1) (fun r2 hr2 => ?_)
        obtain ⟨f2, X2, M2, L2⟩ := hr2
        have hM2 := hM1.tr M2
        have fin : ∀ t : Int32, (t = 0 ↔ r2.1 = 0) → Rn (f_X12_reckonTo_50 N sh k42 fu (z + 242) (nI b) (if v = 0 ∧ r.1 = 0 ∧ t = 0 then 0 else 1) (nI i + 1) r2.2) Q := fun t ht => by
          rw [nI_1]
          refine ih r2.2 f2 _ (by omega) (by omega) X2 hM2 ?_
          by_cases hz : v = 0 ∧ r.1 = 0 ∧ t = 0
          · rw [if_pos hz]
            refine Or.inl ⟨rfl, ?_⟩
            rcases hv with hv | hv
            · rcases L1 with L1 | L1
              · rcases L2 with L2 | L2
                · refine ⟨by rw [L2.2.1, L1.2.1]; exact hv.2.1, ?_⟩
                  rw [L2.2.1, L1.2.1]
                  have l2 := L2.2.2
                  rw [L1.2.1] at l2
                  intro s a c hs ha hc he
                  by_cases es : s < i
                  · exact hv.2.2 s a c es ha hc he
                  · have es : s = i := by omega
                    subst es
                    rcases he.2.2 with ⟨q1, q2⟩ | ⟨_, q1, q2⟩
                    · rw [e7] at q1
                      rw [e8] at q2
                      rw [← nI_inj q1 (by omega) (by omega), ← nI_inj q2 (by omega) (by omega)]
                      exact L1.2.2
                    · rw [e8] at q1
                      rw [e7] at q2
                      rw [← nI_inj q1 (by omega) (by omega), ← nI_inj q2 (by omega) (by omega)]
                      exact l2
                · exact absurd (ht.mp hz.2.2) (by rw [L2.1]; decide)
              · exact absurd hz.2.1 (by rw [L1.1]; decide)
            · exact absurd hz.1 (by rw [hv.1]; decide)
          · rw [if_neg hz]
            refine Or.inr ⟨rfl, ?_⟩
            rcases hv with hv | hv
            · rcases L1 with L1 | L1
              · rcases L2 with L2 | L2
                · exact absurd ⟨hv.1, L1.1, ht.mpr L2.1⟩ hz
                · have := L2.2
                  rw [L1.2.1] at this
                  omega
              · rcases L2 with L2 | L2
                · rw [L2.2.1]
                  omega
                · have := L2.2
                  have := L1.2
                  omega
            · have h1 : smN f1 (nn R 0) ≤ smN f (nn R 0) := by
                rcases L1 with L1 | L1
                · rw [L1.2.1]
                  exact Nat.le_refl _
                · omega
              have h2 : smN f2 (nn R 0) ≤ smN f1 (nn R 0) := by
                rcases L2 with L2 | L2
                · rw [L2.2.1]
                  exact Nat.le_refl _
                · omega
              omega
        refine rn_ite (fun h2 => ?_) (fun h2 => ?_)
        · unfold f_X12_reckonTo_166
          rw [rt167]
          exact fin 0 ⟨fun _ => h2, fun _ => rfl⟩
        · rw [rt167]
          exact fin 1 ⟨fun q => absurd q (by decide), fun q => absurd q h2⟩
      · refine rn_t (by rw [e5]; decide) ?_
        unfold f_X12_reckonTo_166
        rw [rt167, nI_1]
        refine ih r.2 f1 _ (by omega) (by omega) X1 hM1 ?_
        by_cases hz : v = 0 ∧ r.1 = 0 ∧ (0 : Int32) = 0
        · rw [if_pos hz]
          refine Or.inl ⟨rfl, ?_⟩
          rcases hv with hv | hv
          · rcases L1 with L1 | L1
            · refine ⟨by rw [L1.2.1]; exact hv.2.1, ?_⟩
              rw [L1.2.1]
              intro s a c hs ha hc he
              by_cases es : s < i
              · exact hv.2.2 s a c es ha hc he
              · have es : s = i := by omega
                subst es
                rcases he.2.2 with ⟨q1, q2⟩ | ⟨q0, _, _⟩
                · rw [e7] at q1
                  rw [e8] at q2
                  rw [← nI_inj q1 (by omega) (by omega), ← nI_inj q2 (by omega) (by omega)]
                  exact L1.2.2
                · rw [e5] at q0
                  exact absurd q0 (by decide)
            · exact absurd hz.2.1 (by rw [L1.1]; decide)
          · exact absurd hz.1 (by rw [hv.1]; decide)
        · rw [if_neg hz]
          refine Or.inr ⟨rfl, ?_⟩
          rcases hv with hv | hv
          · rcases L1 with L1 | L1
            · exact absurd ⟨hv.1, L1.1, rfl⟩ hz
            · omega
          · rcases L1 with L1 | L1
            · rw [L1.2.1]
              exact hv.2
            · omega
    · refine rn_t (if_neg (by rw [e4]; decide)) ?_
      unfold f_X12_reckonTo_189
      rw [nI_1]
      refine ih d f v (by omega) (by omega) hX hM ?_
      rcases hv with hv | hv
      · refine Or.inl ⟨hv.1, hv.2.1, fun s a c hs ha hc he => ?_⟩
        by_cases es : s < i
        · exact hv.2.2 s a c es ha hc he
        · have es : s = i := by omega
          subst es
          have := he.2.1
          rw [e4] at this
          exact absurd this (by decide)
      · exact Or.inr hv
end RK
