section DK3
variable {s s' s0 : AS} {sh : Sh} {d d0 d' : Dt} {z : Nat} {ow ow' ow0 : Nat → Nat} {R K : Nat → Int32} {N c t k tot : Nat} {T D : Nat → Nat} {l : List (Nat × Nat × Nat)} {Lp L Lp0 : Nat → Nat} {M : Nat → Prop}
theorem dec_0 (h : D t = 0) : dec1 D t = D := funext fun x => by
  unfold dec1
  by_cases e : x = t
  · rw [e, va_up_s, h]
  · rw [va_up_n e]
theorem es_tr {s1 s2 : AS} {ow1 ow2 : Nat → Nat} {lo hi : Nat} (h1 : ES (IX z ow lo hi) s ow s1 ow1) (h2 : ES (IX z ow1 lo hi) s1 ow1 s2 ow2) : ES (IX z ow lo hi) s ow s2 ow2 := h1.tr h2 (fun a ha h => ix_old h1 ha h)
def DKQ (s0 : AS) (z : Nat) (ow0 : Nat → Nat) (R : Nat → Int32) (l : List (Nat × Nat × Nat)) (Lp0 L : Nat → Nat) (M : Nat → Prop) (s' : AS) : Prop := ∃ ow' Lp' T' D' c', ES (IX z ow0 221 234) s0 ow0 s' ow' ∧ KP s' z ow' R T' D' c' l Lp' L M ∧ s'.1.1.2.2 + 2 * smN Lp0 4 ≤ s0.1.1.2.2 + 2 * smN Lp' 4 ∧ s'.1.1.2.1 + smN Lp0 4 ≤ s0.1.1.2.1 + smN Lp' 4
theorem driveAll_loop (hN2 : 300 ≤ N) (hN : WN R) (hW : WS R) (htot : tot ≤ 2000) : ∀ (m k fu c : Nat) (s : AS) (ow T D Lp : Nat → Nat) (l : List (Nat × Nat × Nat)), k + m = tot → m < fu → l.length = k → c < 60 → KP s z ow R T D c l Lp L M → ES (IX z ow0 221 234) s0 ow0 s ow → s.1.1.2.2 + 2 * smN Lp0 4 ≤ s0.1.1.2.2 + 2 * smN Lp 4 → s.1.1.2.1 + smN Lp0 4 ≤ s0.1.1.2.1 + smN Lp 4 → Rn (f_X5_driveAll_2 N fu (z + 221) (nI tot) (nI k) s) (DKQ s0 z ow0 R (l ++ drA R m T c D) Lp0 L M)
  | 0, k, fu, c, s, ow, T, D, Lp, l, hk, hf, hl, hc, h, he, m1, m2 => by
    obtain ⟨fu, rfl⟩ : ∃ q, fu = q + 1 := ⟨fu - 1, by omega⟩
    show Rn (g_X5_driveAll_2 N (f_X5_driveAll_2 N fu) (z + 221) (nI tot) (nI k) s) _
    unfold g_X5_driveAll_2
    refine rn_t ((nI_leI (by omega) (by omega)).mpr (by omega)) ?_
    refine rn_some ⟨ow, Lp, T, D, c, he, ?_, m1, m2⟩
    show KP s z ow R T D c (l ++ []) Lp L M
    rw [List.append_nil]
    exact h
  | m + 1, k, fu, c, s, ow, T, D, Lp, l, hk, hf, hl, hc, h, he, m1, m2 => by
    obtain ⟨fu, rfl⟩ : ∃ q, fu = q + 1 := ⟨fu - 1, by omega⟩
    have ih := driveAll_loop hN2 hN hW htot m (k + 1) fu
    show Rn (g_X5_driveAll_2 N (f_X5_driveAll_2 N fu) (z + 221) (nI tot) (nI k) s) _
    have n0 := hN.1.2
    have n1 := hN.2.1.2
    have hK := h.1
    have hw := h.2.1
    unfold g_X5_driveAll_2
    refine rn_f (nI_ge (by omega) (by omega)) ?_
    refine rn_bind (k_leave hN2 hK hN hW hc h.2.2.1 h.2.2.2.1) (fun r hr => ?_)
    obtain ⟨pf, hr⟩ := hr
    unfold drA
    rcases hr with ⟨e, q, hP⟩ | ⟨e, q, hP⟩
    · refine rn_f (fun r9 => r9 e) ?_
      rw [ite_n q]
      refine rn_some ⟨ow, Lp, T, D, c, es_fd he ((pf.fd hw).mono (fun a ha => ix_mono ha (by omega) (by omega))), ?_, m1, m2⟩
      rw [List.append_nil]
      exact h.pf hN pf hP
    · rw [ite_p q]
      obtain ⟨hs, -⟩ := lvN_ok q
      generalize lvN R T c = t at e hs hP
      obtain ⟨s1, s2, s3, s4⟩ := hs
      have h1 := h.pf hN pf hP
      have he1 : ES (IX z ow0 221 234) s0 ow0 (s.1, r.2) ow := es_fd he ((pf.fd hw).mono (fun a ha => ix_mono ha (by omega) (by omega)))
      refine rn_t (by rw [e]; exact nI_m1 (by omega)) ?_
      refine r_gP hK 221 5 10 233 rfl (by decide) ?_
      refine rn_eq (q_aT (ks_a hK 233 0 150 rfl) t e (by omega) (by decide)) ?_
      obtain ⟨dt, dt2⟩ := h1.2.2.2.2.1 t s1
      have dt : r.2.1 (z + 233) t = nI (D t) := dt
      rw [dt]
      have fin : ∀ v : Nat, v ≤ 1 → (v = 1 → 0 < D t) → v = (if 0 < D t then 1 else 0) → Rn (f_X5_driveAll_34 N (f_X5_driveAll_2 N fu) (z + 221) (nI tot) (nI k) (z + 221) r.1 (nI v) (s.1, r.2)) (DKQ s0 z ow0 R (l ++ (t, c, if 0 < D t then 1 else 0) :: drA R m (dec1 T t) (oth R t c) (dec1 D t)) Lp0 L M) := fun v v1 v2 v3 => by
        unfold f_X5_driveAll_34 f_X5_driveAll_37
        rw [e]
        refine rn_bind (k_addDrive (s := (s.1, r.2)) v1 v2 hN2 hN hW s1 hc (by omega) h1) (fun r2 hr2 => ?_)
        rcases hr2 with ⟨q1, _⟩ | ⟨q1, q2, ow2, Lp2, e2, k2, a1, a2⟩
        · omega
        · rw [nI_1]
          have eD : (if v = 0 then D else dec1 D t) = dec1 D t := by
            by_cases ev : v = 0
            · rw [if_pos ev]
              refine (dec_0 ?_).symm
              rw [ev] at v3
              by_cases hp : 0 < D t
              · rw [if_pos hp] at v3
                omega
              · omega
            · rw [if_neg ev]
          rw [eD] at k2
          have := ih (oth R t c) r2.2 ow2 (dec1 T t) (dec1 D t) Lp2 (l ++ [(t, c, v)]) (by omega) (by omega) (by simp; omega) (by have := oth_lt (c := c) hW hN s1; omega) k2 (es_tr he1 e2) (by
            have a1 : r2.2.1.1.2.2 + 2 * smN Lp 4 ≤ s.1.1.2.2 + 2 * smN Lp2 4 := a1
            omega) (by
            have a2 : r2.2.1.1.2.1 + smN Lp 4 ≤ s.1.1.2.1 + smN Lp2 4 := a2
            omega)
          rw [List.append_assoc, v3] at this
          exact this
      refine rn_ite (fun q0 => ?_) (fun q0 => ?_)
      · have q0 : D t = 0 := by
          rcases Nat.eq_zero_or_pos (D t) with q | q
          · exact q
          · exact absurd q0 (nI_nle q (by omega))
        exact fin 0 (by omega) (fun q => absurd q (by decide)) (by rw [if_neg (by omega)])
      · have q0 : 0 < D t := by
          rcases Nat.eq_zero_or_pos (D t) with q | q
          · rw [q] at q0
            exact absurd (by decide) q0
          · exact q
        exact fin 1 (by omega) (fun _ => q0) (by rw [if_pos q0])
theorem k_driveAll (hN2 : 3000 ≤ N) (hN : WN R) (hW : WS R) (htot : tot ≤ 2000) (h : KP s z ow R T D 0 [] Lp L M) : Rn (f_X5_driveAll N (z + 221) (nI tot) s) (DKQ s z ow R (drA R tot T 0 D) Lp L M) := by
  unfold f_X5_driveAll
  refine rn_t (ks_o h.1 221 5 rfl) ?_
  exact driveAll_loop (s0 := s) (ow0 := ow) (Lp0 := Lp) (by omega) hN hW htot tot 0 N 0 s ow T D Lp [] (by omega) (by omega) rfl (by decide) h ES.rf (Nat.le_refl _) (Nat.le_refl _)
end DK3
