/-! the DRIVES of (A), the class -/
def vL (R : Nat → Int32) (l : List (Nat × Nat × Nat)) (c i : Nat) : Int32 := if c = 0 then nI (l.getD i (0, 0, 0)).1 else if c = 1 then nI (l.getD i (0, 0, 0)).2.1 else if c = 2 then nI (oth R (l.getD i (0, 0, 0)).1 (l.getD i (0, 0, 0)).2.1) else nI (l.getD i (0, 0, 0)).2.2
/-- the planner at work: left T, due D, at c, DRIVES l -/
def KP (s : AS) (z : Nat) (ow : Nat → Nat) (R : Nat → Int32) (T D : Nat → Nat) (c : Nat) (l : List (Nat × Nat × Nat)) (Lp L : Nat → Nat) (M : Nat → Prop) : Prop := KS s.1 z ∧ OWS ow z ∧ PL s.2 z R T ∧ s.2.1 (z + 221) 12 = nI c ∧ (∀ t, t < nn R 1 → s.2.1 (z + 233) t = nI (D t) ∧ D t < 2 ^ 30) ∧ TB s.1 s.2 z ow 222 4 l.length (vL R l) Lp ∧ (∀ c, c < 4 → Lp c ≤ 4000) ∧ WX s.1 s.2 z ow R L M
section DK
variable {s s' : AS} {sh : Sh} {d d0 d' : Dt} {z : Nat} {ow ow' : Nat → Nat} {R K : Nat → Int32} {N c t k : Nat} {T D : Nat → Nat} {l : List (Nat × Nat × Nat)} {Lp L : Nat → Nat} {M : Nat → Prop}
theorem conn_bits {x rc : Int64} (h1 : ∀ v, bit x v = true ↔ tchI R T (nn R 1) v) (h2 : ∀ v, bit rc v = true ↔ rch R T c v) : (x &&& (rc ^^^ (-1))) = 0 ↔ conn R T c := by
  have hls : ∀ v, bit (x &&& (rc ^^^ (-1))) v = true ↔ (tchI R T (nn R 1) v ∧ ¬ rch R T c v) := fun v => by
    rw [bit_and, Bool.and_eq_true, h1 v]
    refine and_congr_right (fun q => ?_)
    rw [bit_not (bit_big ((h1 v).mpr q)), ← h2 v]
    cases bit rc v <;> simp
  refine ⟨fun q s hs hp => ?_, fun q => ?_⟩
  · by_cases r9 : rch R T c (eA R s)
    · exact r9
    · have := (hls (eA R s)).mpr ⟨⟨s, hs, hp, Or.inl rfl⟩, r9⟩
      rw [q, bit_0] at this
      cases this
  · by_cases h0 : (x &&& (rc ^^^ (-1))) = 0
    · exact h0
    · obtain ⟨v, _, v1, _⟩ := bit_ex h0
      obtain ⟨⟨s, w2, w3, w4⟩, w1⟩ := (hls v).mp v1
      have r9 := q s w2 w3
      rcases w4 with w4 | w4
      · rw [w4] at r9
        exact absurd r9 w1
      · exact absurd (rch_step r9 ⟨s, w2, w3, Or.inl ⟨rfl, w4⟩⟩) w1
theorem pl_w {n : Nat} {T' : Nat → Nat} (hP : PL d z R T) (h : T' = va_up T t n) (hn : n < 2 ^ 30) : PL (wI d (z + 232) t (nI n)) z R T' := by
  refine hP.pf (PF.w (by omega)) (fun x hx => ?_)
  rw [wI_s, h]
  by_cases e : x = t
  · rw [e, va_up_s, va_up_s]
    exact ⟨rfl, hn⟩
  · rw [va_up_n e, va_up_n e]
    exact ⟨(hP.2 x hx).2.2.1, (hP.2 x hx).2.2.2⟩
theorem leave_loop (hN2 : 300 ≤ N) (hK : KS sh z) (hN : WN R) (hW : WS R) (hc : c < 60) : ∀ (m i fu : Nat) (d : Dt), i + m = nn R 1 → m < fu → PF z d0 d → PL d z R T → d.1 (z + 221) 12 = nI c → (∀ s, s < i → ¬ lvS R T c s) → Rn (f_X5_leave_2 N sh fu (z + 221) (nI i) d) (fun r => PF z d0 r.2 ∧ ((r.1 = -1 ∧ (¬ ∃ s, lvS R T c s) ∧ PL r.2 z R T) ∨ (r.1 = nI (lvN R T c) ∧ (∃ s, lvS R T c s) ∧ PL r.2 z R (dec1 T (lvN R T c)))))
  | 0, i, fu, d, hi, hf, hM, hP, hpl, hl => by
    obtain ⟨fu, rfl⟩ : ∃ q, fu = q + 1 := ⟨fu - 1, by omega⟩
    show Rn (g_X5_leave_2 N sh (f_X5_leave_2 N sh fu) (z + 221) (nI i) d) _
    have n1 := hN.2.1.2
    unfold g_X5_leave_2
    refine r_gI hK (i := 221) (c := 5) rfl ?_
    rw [hP.1]
    refine rn_t ((nI_leI (by omega) (by omega)).mpr (by omega)) ?_
    exact rn_some ⟨hM, Or.inl ⟨rfl, fun ⟨s, hs⟩ => hl s (by have := hs.1; omega) hs, hP⟩⟩
  | m + 1, i, fu, d, hi, hf, hM, hP, hpl, hl => by
    obtain ⟨fu, rfl⟩ : ∃ q, fu = q + 1 := ⟨fu - 1, by omega⟩
    have ih := leave_loop hN2 hK hN hW hc m (i + 1) fu
    show Rn (g_X5_leave_2 N sh (f_X5_leave_2 N sh fu) (z + 221) (nI i) d) _
    have n0 := hN.1.2
    have n1 := hN.2.1.2
    have his : i < nn R 1 := by omega
    obtain ⟨e7, a2, e8, b2, hne⟩ := ws_e hW hN his
    obtain ⟨pa, pb, pt, pt2⟩ := hP.2 i his
    have h2 := ks_a hK 232 0 150 rfl
    have skip : ¬ lvS R T c i → ∀ d, PF z d0 d → PL d z R T → d.1 (z + 221) 12 = nI c → Rn (f_X5_leave_2 N sh fu (z + 221) (nI (i + 1)) d) (fun r => PF z d0 r.2 ∧ ((r.1 = -1 ∧ (¬ ∃ s, lvS R T c s) ∧ PL r.2 z R T) ∨ (r.1 = nI (lvN R T c) ∧ (∃ s, lvS R T c s) ∧ PL r.2 z R (dec1 T (lvN R T c))))) := fun hn d hM hP hpl => ih d (by omega) (by omega) hM hP hpl (fun s hs => by
      by_cases e : s = i
      · rw [e]
        exact hn
      · exact hl s (by omega))
    have h45 : 0 < T i → (eA R i = c ∨ eB R i = c) → Rn (f_X5_leave_45 N sh (f_X5_leave_2 N sh fu) (z + 221) (nI i) d) (fun r => PF z d0 r.2 ∧ ((r.1 = -1 ∧ (¬ ∃ s, lvS R T c s) ∧ PL r.2 z R T) ∨ (r.1 = nI (lvN R T c) ∧ (∃ s, lvS R T c s) ∧ PL r.2 z R (dec1 T (lvN R T c))))) := fun h1 hin => by
      obtain ⟨w, hw⟩ : ∃ w, T i = w + 1 := ⟨T i - 1, by omega⟩
      unfold f_X5_leave_45
      refine r_gP hK 221 5 9 232 rfl (by decide) ?_
      refine rn_eq (q_aT h2 i rfl (by omega) (by decide)) ?_
      rw [pt, hw, nI_pred]
      refine rn_eq (q_sI h2 i rfl (by omega) (by decide)) ?_
      have hP1 : PL (wI d (z + 232) i (nI w)) z R (dec1 T i) := pl_w hP (by unfold dec1; rw [hw]; rfl) (by omega)
      refine rn_bind (k_look hN2 hK hN hW hP1) (fun r hr => ?_)
      obtain ⟨n9, l1, l2⟩ := hr
      have hM1 := hM.tr ((PF.w (i := 232) (k := i) (v := nI w) (by omega)).tr n9.pf)
      have hP2 : PL r.2 z R (dec1 T i) := hP1.pf n9.pf (fun s hs => by rw [n9.1]; exact ⟨(hP1.2 s hs).2.2.1, (hP1.2 s hs).2.2.2⟩)
      have hpl2 : r.2.1 (z + 221) 12 = nI c := by
        rw [n9.1, wI_n (by omega)]
        exact hpl
      have ho := oth_lt (c := c) hW hN his
      have h90 : Rn (f_X5_leave_90 N sh (f_X5_leave_2 N sh fu) (z + 221) (nI i) r.1 (z + 221) (nI (oth R i c)) r.2) (fun r => PF z d0 r.2 ∧ ((r.1 = -1 ∧ (¬ ∃ s, lvS R T c s) ∧ PL r.2 z R T) ∨ (r.1 = nI (lvN R T c) ∧ (∃ s, lvS R T c s) ∧ PL r.2 z R (dec1 T (lvN R T c))))) := by
        unfold f_X5_leave_90 f_X5_leave_115 f_X5_leave_103
        refine rn_bind (k_reached (c := oth R i c) (T := dec1 T i) hN2 hK hN hW (by omega) l1) (fun rc hrc => ?_)
        have hcb := conn_bits (c := oth R i c) l2 hrc
        refine rn_ite (fun q => ?_) (fun q => ?_)
        · have q : ¬ lvS R T c i := fun r9 => q (cmp0.mpr (hcb.mpr r9.2.2.2))
          refine r_gP hK 221 5 9 232 rfl (by decide) ?_
          refine rn_eq (q_aT h2 i rfl (by omega) (by decide)) ?_
          have e1 : r.2.1 (z + 232) i = nI w := by
            rw [n9.1, wI_s, va_up_s]
          rw [e1, nI_1, nI_1]
          refine rn_eq (q_sI h2 i rfl (by omega) (by decide)) ?_
          refine skip q _ (hM1.tr (PF.w (by omega))) (pl_w hP2 ?_ (by omega)) (by rw [wI_n (by omega)]; exact hpl2)
          funext x
          unfold dec1
          by_cases ex : x = i
          · rw [ex, va_up_s, hw]
          · rw [va_up_n ex, va_up_n ex]
        · have q : lvS R T c i := ⟨his, h1, hin, hcb.mp (cmp0.mp (Decidable.of_not_not q))⟩
          refine rn_some ⟨hM1, Or.inr ⟨?_, ⟨i, q⟩, ?_⟩⟩
          · rw [lvN_eq q hl]
          · rw [lvN_eq q hl]
            exact hP2
      refine r_gP hK 221 5 6 230 rfl (by decide) ?_
      refine rn_eq (q_aT (ks_a hK 230 0 150 rfl) i rfl (by omega) (by decide)) ?_
      refine r_gI hK (i := 221) (c := 5) rfl ?_
      rw [(hP2.2 i his).1, hpl2]
      refine rn_ite (fun q => ?_) (fun q => ?_)
      · refine r_gP hK 221 5 6 230 rfl (by decide) ?_
        refine rn_eq (q_aT (ks_a hK 230 0 150 rfl) i rfl (by omega) (by decide)) ?_
        rw [(hP2.2 i his).1]
        have e : oth R i c = eA R i := if_neg (fun e => q (by rw [e]))
        rw [e] at h90
        exact h90
      · refine r_gP hK 221 5 7 231 rfl (by decide) ?_
        refine rn_eq (q_aT (ks_a hK 231 0 150 rfl) i rfl (by omega) (by decide)) ?_
        rw [(hP2.2 i his).2.1]
        have e : oth R i c = eB R i := if_pos (nI_inj (Decidable.of_not_not q) (by omega) (by omega))
        rw [e] at h90
        exact h90
    unfold g_X5_leave_2 f_X5_leave_115
    refine r_gI hK (i := 221) (c := 5) rfl ?_
    rw [hP.1, nI_1]
    refine rn_f (nI_ge his (by omega)) ?_
    refine r_gP hK 221 5 9 232 rfl (by decide) ?_
    refine rn_eq (q_aT h2 i rfl (by omega) (by decide)) ?_
    refine rn_ite (fun q => ?_) (fun q => ?_)
    · have q := (pl_pos hP his).mp q
      exact skip (fun r => by have := r.2.1; omega) d hM hP hpl
    · have q : 0 < T i := by
        have : ¬ T i = 0 := fun r => q ((pl_pos hP his).mpr r)
        omega
      refine r_gP hK 221 5 6 230 rfl (by decide) ?_
      refine rn_eq (q_aT (ks_a hK 230 0 150 rfl) i rfl (by omega) (by decide)) ?_
      refine r_gI hK (i := 221) (c := 5) rfl ?_
      rw [pa, hpl]
      refine rn_ite (fun q1 => ?_) (fun q1 => ?_)
      · exact h45 q (Or.inl (nI_inj q1 (by omega) (by omega)))
      · refine r_gP hK 221 5 7 231 rfl (by decide) ?_
        refine rn_eq (q_aT (ks_a hK 231 0 150 rfl) i rfl (by omega) (by decide)) ?_
        refine r_gI hK (i := 221) (c := 5) rfl ?_
        rw [pb, hpl]
        refine rn_ite (fun q2 => ?_) (fun q2 => ?_)
        · exact skip (fun r => r.2.2.1.elim (fun e => q1 (by rw [e])) (fun e => q2 (by rw [e]))) d hM hP hpl
        · exact h45 q (Or.inr (nI_inj (Decidable.of_not_not q2) (by omega) (by omega)))
theorem k_leave (hN2 : 300 ≤ N) (hK : KS sh z) (hN : WN R) (hW : WS R) (hc : c < 60) (hP : PL d z R T) (hpl : d.1 (z + 221) 12 = nI c) : Rn (f_X5_leave N sh (z + 221) d) (fun r => PF z d r.2 ∧ ((r.1 = -1 ∧ (¬ ∃ s, lvS R T c s) ∧ PL r.2 z R T) ∨ (r.1 = nI (lvN R T c) ∧ (∃ s, lvS R T c s) ∧ PL r.2 z R (dec1 T (lvN R T c))))) := by
  have n1 := hN.2.1.2
  unfold f_X5_leave
  refine rn_t (ks_o hK 221 5 rfl) ?_
  exact leave_loop (d0 := d) hN2 hK hN hW hc (nn R 1) 0 N d (by omega) (by omega) PF.rf hP hpl (fun s hs => absurd hs (Nat.not_lt_zero s))
/-- left, near, facts and partners change: all else of the planner stands -/
theorem KP.pf {T' : Nat → Nat} (h : KP s z ow R T D c l Lp L M) (hN : WN R) (hf : PF z s.2 d') (hP : PL d' z R T') : KP (s.1, d') z ow R T' D c l Lp L M := by
  obtain ⟨h1, h2, h3, h4, h5, h6, h7, h8⟩ := h
  refine ⟨h1, h2, hP, ?_, fun t ht => ?_, ?_, h7, h8.pf hN h1 h2 hf⟩
  · show d'.1 (z + 221) 12 = nI c
    rw [hf.2.1 (z + 221) (by omega) (by omega) (by omega)]
    exact h4
  · show d'.1 (z + 233) t = nI (D t) ∧ _
    rw [hf.2.1 (z + 233) (by omega) (by omega) (by omega)]
    exact h5 t ht
  · exact tb_ix (s := s) (s' := (s.1, d')) h6 h1 h2 (by decide) (FD.es (sh := s.1) (d := s.2) (hf.fd h2)) (by omega)
end DK
