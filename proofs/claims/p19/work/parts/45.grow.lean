/-- the columns' rows stand, whatever they hold -/
def TR (sh : Sh) (d : Dt) (z : Nat) (ow : Nat → Nat) (o nc : Nat) (L : Nat → Nat) : Prop := ∀ c, c < nc → ∃ a, d.2.2.2 (z + (o + 1)) c = some a ∧ ow a = 16 * o + c + 1 ∧ isA sh a 0 ∧ sh.2.2.1 a = L c ∧ L c < 2 ^ 20
def TV (d : Dt) (z o c S : Nat) (V : Nat → Nat → Int32) : Prop := ∀ a, d.2.2.2 (z + (o + 1)) c = some a → ∀ i, i < S → d.1 a i = V c i
section GR
variable {sh : Sh} {d : Dt} {z : Nat} {ow : Nat → Nat} {o nc S : Nat} {V : Nat → Nat → Int32} {L : Nat → Nat} {N : Nat}
theorem TB.tr (h : TB sh d z ow o nc S V L) : TR sh d z ow o nc L := fun c hc => by
  obtain ⟨a, h1, h2, h3, h4, h5, h6, h7⟩ := h.2 c hc
  exact ⟨a, h1, h2, h3, h4, h6⟩
theorem TB.tv (h : TB sh d z ow o nc S V L) {c : Nat} (hc : c < nc) : TV d z o c S V := fun a ha => by
  obtain ⟨b, h1, h2, h3, h4, h5, h6, h7⟩ := h.2 c hc
  rw [ha] at h1
  cases h1
  exact h7
theorem tb_mk (h0 : d.1 (z + o) 1 = nI S) (h : TR sh d z ow o nc L) (hS : ∀ c, c < nc → S ≤ L c) (hV : ∀ c, c < nc → TV d z o c S V) : TB sh d z ow o nc S V L := ⟨h0, fun c hc => by
  obtain ⟨a, h1, h2, h3, h4, h5⟩ := h c hc
  exact ⟨a, h1, h2, h3, h4, hS c hc, h5, hV c hc a h1⟩⟩
/-- ints of one of the table's rows change -/
theorem tr_row {a c : Nat} {f : Nat → Int32} (hk : tck o nc = true) (hcn : c < nc) (h : TR sh d z ow o nc L) (ha : ow a = 16 * o + c + 1) : TR sh (va_up d.1 a f, d.2) z ow o nc L ∧ FD (TX z ow o) d (va_up d.1 a f, d.2) ∧ (∀ j, j < nc → j ≠ c → ∀ S V, TV d z o j S V → TV (va_up d.1 a f, d.2) z o j S V) := by
  have hn := tck_n hk
  refine ⟨h, fun b hb => ⟨va_up_n (fun e => hb (Or.inr (Or.inr (by rw [e, ha]; exact ⟨by omega, by omega⟩)))), rfl, rfl, rfl⟩, fun j hj hne S V hv b hb i hi => ?_⟩
  obtain ⟨b', h1, h2, -, -, -⟩ := h j hj
  have hb2 : d.2.2.2 (z + (o + 1)) j = some b := hb
  rw [hb2] at h1
  cases h1
  show va_up d.1 a f b i = _
  rw [va_up_n (fun e => by rw [e] at h2; omega)]
  exact hv b hb i hi
theorem cpy_I {src dst ls ld sp dp n : Nat} (h1 : isA sh src 0 ∧ sh.2.2.1 src = ls) (h2 : isA sh dst 0 ∧ sh.2.2.1 dst = ld) (b1 : sp + n ≤ ls) (b2 : dp + n ≤ ld) (b3 : ls < 2 ^ 31) (b4 : ld < 2 ^ 31) : cpy sh d src (nI sp) dst (nI dp) (nI n) = some (va_up d.1 dst (va_cpy (d.1 src) (d.1 dst) sp dp n), d.2) := by
  unfold cpy
  rw [if_neg (by rw [h1.1.2.2]; decide), if_neg (by rw [h1.1.2.2]; decide)]
  unfold cpI
  rw [h1.2, h2.2, nI_clamp (by omega), nI_clamp (by omega), nI_clamp (by omega), if_pos ⟨h1.1, h2.1, nI_pos (by omega), nI_pos (by omega), nI_pos (by omega), b1, b2⟩]
theorem tb_widen {rows : Nat} {s : AS} (hN : 16 ≤ N) (hk : tck o nc = true) (hrow : rows < 2 ^ 19) (hK : KS s.1 z) (hw : OWS ow z) (ht : TB s.1 s.2 z ow o nc S V L) : Rn (f_X8_widen N (z + o) (nI rows) s) (fun s' => ∃ ow' L', ES (TX z ow o) s ow s' ow' ∧ TB s'.1 s'.2 z ow' o nc S V L' ∧ (∀ j, j < nc → rows ≤ L' j ∧ L j ≤ L' j ∧ L' j ≤ max (L j) (2 * rows)) ∧ s'.1.1.2.2 + 2 * smN L nc ≤ s.1.1.2.2 + 2 * smN L' nc ∧ s'.1.1.2.1 + smN L nc ≤ s.1.1.2.1 + smN L' nc) := by
  have hn := tck_n hk
  unfold f_X8_widen
  refine rn_t (ks_o hK o 8 (tck_1 hk)) ?_
  exact widen_loop hk hrow nc 0 N s ow L (by omega) (by omega) hK hw ht (fun j hj => absurd hj (Nat.not_lt_zero j))
theorem add_loop (hk : tck o nc = true) (hK : KS sh z) (hw : OWS ow z) (hS : ∀ c, c < nc → S + 1 ≤ L c) : ∀ (m c fu : Nat) (d : Dt), c + m = nc → m < fu → TB sh d z ow o nc S V L → (∀ j, j < c → TV d z o j (S + 1) (fun c i => if i = S then 0 else V c i)) →
    Rn (f_X8_add_12 N fu (z + o) (nI c) (sh, d)) (fun r => r.1 = nI S ∧ r.2.1 = sh ∧ TB sh r.2.2 z ow o nc (S + 1) (fun c i => if i = S then 0 else V c i) L ∧ FD (TX z ow o) d r.2.2)
  | 0, c, fu, d, hc, hf, ht, hv => by
    obtain ⟨fu, rfl⟩ : ∃ q, fu = q + 1 := ⟨fu - 1, by omega⟩
    show Rn (g_X8_add_12 N (f_X8_add_12 N fu) (z + o) (nI c) (sh, d)) _
    unfold g_X8_add_12
    have hn := tck_n hk
    refine r_gP hK o 8 0 (o + 1) (tck_1 hk) (tck_3 hk) ?_
    refine rn_eq (q_len (ks_a hK (o + 1) 5 nc (tck_2 hk)) (by decide)) ?_
    refine rn_t (nI_le (by omega) (by omega)) ?_
    unfold f_X8_add_39
    refine r_gI hK (tck_1 hk) ?_
    refine r_pI hK (tck_1 hk) ?_
    refine r_gI hK (tck_1 hk) ?_
    have hS0 : d.1 (z + o) 1 = nI S := ht.1
    refine rn_some ⟨?_, rfl, ?_, FD.wI (Or.inl rfl)⟩
    · show (wI d (z + o) 1 (d.1 (z + o) 1 + 1)).1 (z + o) 1 - 1 = nI S
      rw [wI_s, va_up_s, hS0, nI_1, nI_pred]
    · refine tb_mk ?_ ht.tr hS (fun j hj a ha i hi => ?_)
      · show (wI d (z + o) 1 (d.1 (z + o) 1 + 1)).1 (z + o) 1 = _
        rw [wI_s, va_up_s, hS0, nI_1]
      · obtain ⟨b, h1, h2, -⟩ := ht.tr j hj
        have ha : d.2.2.2 (z + (o + 1)) j = some a := ha
        have h9 := ha
        rw [h1] at h9
        cases h9
        show (wI d (z + o) 1 (d.1 (z + o) 1 + 1)).1 a i = _
        rw [wI_n (fun e => by have := (tck_o hk hw).1; rw [← e] at this; omega)]
        exact hv j (by omega) a ha i hi
  | m + 1, c, fu, d, hc, hf, ht, hv => by
    obtain ⟨fu, rfl⟩ : ∃ q, fu = q + 1 := ⟨fu - 1, by omega⟩
    show Rn (g_X8_add_12 N (f_X8_add_12 N fu) (z + o) (nI c) (sh, d)) _
    unfold g_X8_add_12
    have hn := tck_n hk
    have hcn : c < nc := by omega
    obtain ⟨a, ha, hwa, hA, hL, hLb⟩ := ht.tr c hcn
    have hS1 := hS c hcn
    refine r_gP hK o 8 0 (o + 1) (tck_1 hk) (tck_3 hk) ?_
    refine rn_eq (q_len (ks_a hK (o + 1) 5 nc (tck_2 hk)) (by decide)) ?_
    refine rn_f (nI_ge hcn (by omega)) ?_
    refine r_gP hK o 8 0 (o + 1) (tck_1 hk) (tck_3 hk) ?_
    refine rn_eq (q_aQ (ks_a hK (o + 1) 5 nc (tck_2 hk)) c a rfl hcn (by omega) ha) ?_
    refine r_gI hK (tck_1 hk) ?_
    rw [show (sh, d).2 = d from rfl, ht.1]
    refine rn_eq (q_sI ⟨hA, hL⟩ S rfl (by omega) (by omega)) ?_
    rw [nI_1]
    have hrow := tr_row (f := va_up (d.1 a) S 0) hk hcn ht.tr hwa
    have ht2 : TB sh (wI d a S 0) z ow o nc S V L := by
      refine tb_mk ?_ hrow.1 (fun j hj => by have := hS j hj; omega) (fun j hj => ?_)
      · rw [wI_n (fun e => by have := (tck_o hk hw).1; rw [e] at this; omega)]
        exact ht.1
      · by_cases e : j = c
        · subst e
          intro b hb i hi
          have hb : d.2.2.2 (z + (o + 1)) j = some b := hb
          rw [ha] at hb
          cases hb
          rw [wI_s, va_up_n (by omega)]
          exact ht.tv hj a ha i hi
        · exact hrow.2.2 j hj e S V (ht.tv hj)
    refine rn_mono (add_loop hk hK hw hS m (c + 1) fu (wI d a S 0) (by omega) (by omega) ht2 (fun j hj => ?_)) (fun r hr => ⟨hr.1, hr.2.1, hr.2.2.1, hrow.2.1.tr hr.2.2.2⟩)
    by_cases e : j = c
    · subst e
      intro b hb i hi
      have hb : d.2.2.2 (z + (o + 1)) j = some b := hb
      have hb0 := hb
      rw [ha] at hb
      cases hb
      rw [wI_s]
      show va_up (d.1 a) S 0 i = (if i = S then 0 else V j i)
      by_cases e2 : i = S
      · rw [e2, va_up_s, if_pos rfl]
      · rw [va_up_n e2, if_neg e2]
        exact ht.tv hcn a ha i (by omega)
    · exact hrow.2.2 j (by omega) e _ _ (hv j (by omega))
theorem tb_add {s : AS} (hN : 16 ≤ N) (hk : tck o nc = true) (hS : S < 2 ^ 18) (hK : KS s.1 z) (hw : OWS ow z) (ht : TB s.1 s.2 z ow o nc S V L) : Rn (f_X8_add N (z + o) s) (fun r => r.1 = nI S ∧ ∃ ow' L', ES (TX z ow o) s ow r.2 ow' ∧ TB r.2.1 r.2.2 z ow' o nc (S + 1) (fun c i => if i = S then 0 else V c i) L' ∧ (∀ j, j < nc → L j ≤ L' j ∧ L' j ≤ max (L j) (2 * (S + 1))) ∧ r.2.1.1.2.2 + 2 * smN L nc ≤ s.1.1.2.2 + 2 * smN L' nc ∧ r.2.1.1.2.1 + smN L nc ≤ s.1.1.2.1 + smN L' nc) := by
  have hn := tck_n hk
  unfold f_X8_add
  refine rn_t (ks_o hK o 8 (tck_1 hk)) ?_
  refine r_gI hK (tck_1 hk) ?_
  rw [ht.1, nI_1]
  refine rn_bind (tb_widen hN hk (by omega) hK hw ht) (fun s1 hs => ?_)
  obtain ⟨ow1, L1, h1, h2, h3, h4, h5⟩ := hs
  have hK1 := KS.es hK h1
  have hw1 := OWS.es hw hK h1
  unfold f_X8_add_10
  refine rn_mono (add_loop hk hK1 hw1 (fun c hc => (h3 c hc).1) nc 0 N s1.2 (by omega) (by omega) h2 (fun j hj => absurd hj (Nat.not_lt_zero j))) (fun r hr => ?_)
  obtain ⟨r1, r2, r3, r4⟩ := hr
  refine ⟨r1, ow1, L1, h1.tr (s1 := s1) (Y := TX z ow1 o) ?_ (fun b hb hX => ?_), ?_, fun j hj => (h3 j hj).2, ?_, ?_⟩
  · have := FD.es (sh := s1.1) (ow := ow1) r4
    rw [← r2] at this
    have e : r.2 = (r.2.1, r.2.2) := rfl
    rw [e]
    rw [r2] at this ⊢
    exact this
  · have q := (h1.2.2 b hb).2.2.2.1
    rcases hX with hX | hX | hX
    · exact Or.inl hX
    · exact Or.inr (Or.inl hX)
    · rw [q] at hX
      exact Or.inr (Or.inr hX)
  · rw [r2]
    exact r3
  · rw [r2]
    exact h4
  · rw [r2]
    exact h5
theorem become_loop {o2 S2 : Nat} {V2 : Nat → Nat → Int32} {L2 : Nat → Nat} (hk : tck o nc = true) (hk2 : tck o2 nc = true) (hne : o + 1 < o2 ∨ o2 + 1 < o) (hK : KS sh z) (hw : OWS ow z) (hS : ∀ c, c < nc → S2 ≤ L c) : ∀ (m c fu : Nat) (d : Dt), c + m = nc → m < fu → TR sh d z ow o nc L → TB sh d z ow o2 nc S2 V2 L2 → (∀ j, j < c → TV d z o j S2 V2) →
    Rn (f_X8_become_10 N fu (z + o) (z + o2) (nI c) (sh, d)) (fun s' => s'.1 = sh ∧ TB sh s'.2 z ow o nc S2 V2 L ∧ FD (TX z ow o) d s'.2)
  | 0, c, fu, d, hc, hf, hr, ht, hv => by
    obtain ⟨fu, rfl⟩ : ∃ q, fu = q + 1 := ⟨fu - 1, by omega⟩
    show Rn (g_X8_become_10 N (f_X8_become_10 N fu) (z + o) (z + o2) (nI c) (sh, d)) _
    unfold g_X8_become_10
    have hn := tck_n hk
    refine r_gP hK o 8 0 (o + 1) (tck_1 hk) (tck_3 hk) ?_
    refine rn_eq (q_len (ks_a hK (o + 1) 5 nc (tck_2 hk)) (by decide)) ?_
    refine rn_t (nI_le (by omega) (by omega)) ?_
    unfold f_X8_become_55
    refine r_gI hK (tck_1 hk2) ?_
    refine r_pI hK (tck_1 hk) ?_
    have hS0 : d.1 (z + o2) 1 = nI S2 := ht.1
    refine rn_some ⟨rfl, ?_, FD.wI (Or.inl rfl)⟩
    refine tb_mk ?_ hr hS (fun j hj a ha i hi => ?_)
    · show (wI d (z + o) 1 (d.1 (z + o2) 1)).1 (z + o) 1 = _
      rw [wI_s, va_up_s, hS0]
    · obtain ⟨b, h1, h2, -⟩ := hr j hj
      have ha : d.2.2.2 (z + (o + 1)) j = some a := ha
      have h9 := ha
      rw [h1] at h9
      cases h9
      show (wI d (z + o) 1 (d.1 (z + o2) 1)).1 a i = _
      rw [wI_n (fun e => by have := (tck_o hk hw).1; rw [← e] at this; omega)]
      exact hv j (by omega) a ha i hi
  | m + 1, c, fu, d, hc, hf, hr, ht, hv => by
    obtain ⟨fu, rfl⟩ : ∃ q, fu = q + 1 := ⟨fu - 1, by omega⟩
    show Rn (g_X8_become_10 N (f_X8_become_10 N fu) (z + o) (z + o2) (nI c) (sh, d)) _
    unfold g_X8_become_10
    have hn := tck_n hk
    have hcn : c < nc := by omega
    obtain ⟨a, ha, hwa, hA, hL, hLb⟩ := hr c hcn
    obtain ⟨a2, ha2, hwa2, hA2, hL2, hSL2, hLb2, hV2⟩ := ht.2 c hcn
    have hS1 := hS c hcn
    have hsz : d.1 (z + o2) 1 = nI S2 := ht.1
    refine r_gP hK o 8 0 (o + 1) (tck_1 hk) (tck_3 hk) ?_
    refine rn_eq (q_len (ks_a hK (o + 1) 5 nc (tck_2 hk)) (by decide)) ?_
    refine rn_f (nI_ge hcn (by omega)) ?_
    refine r_gP hK o2 8 0 (o2 + 1) (tck_1 hk2) (tck_3 hk2) ?_
    refine rn_eq (q_len (ks_a hK (o2 + 1) 5 nc (tck_2 hk2)) (by decide)) ?_
    refine rn_f (nI_ge hcn (by omega)) ?_
    refine r_gP hK o2 8 0 (o2 + 1) (tck_1 hk2) (tck_3 hk2) ?_
    refine rn_eq (q_aQ (ks_a hK (o2 + 1) 5 nc (tck_2 hk2)) c a2 rfl hcn (by omega) ha2) ?_
    refine r_gP hK o 8 0 (o + 1) (tck_1 hk) (tck_3 hk) ?_
    refine rn_eq (q_aQ (ks_a hK (o + 1) 5 nc (tck_2 hk)) c a rfl hcn (by omega) ha) ?_
    refine r_gI hK (tck_1 hk2) ?_
    rw [show (sh, d).2 = d from rfl, hsz]
    refine rn_eq (cpy_I (sp := 0) (dp := 0) ⟨hA2, hL2⟩ ⟨hA, hL⟩ (by omega) (by omega) (by omega) (by omega)) ?_
    rw [nI_1]
    have hrow := tr_row (f := va_cpy (d.1 a2) (d.1 a) 0 0 S2) hk hcn hr hwa
    refine rn_mono (become_loop hk hk2 hne hK hw hS m (c + 1) fu _ (by omega) (by omega) hrow.1 (tb_fr hw hk hk2 hne ht hrow.2.1) (fun j hj => ?_)) (fun s' hs => ⟨hs.1, hs.2.1, hrow.2.1.tr hs.2.2⟩)
    by_cases e : j = c
    · subst e
      intro b hb i hi
      have hb : d.2.2.2 (z + (o + 1)) j = some b := hb
      rw [ha] at hb
      cases hb
      show va_up d.1 a (va_cpy (d.1 a2) (d.1 a) 0 0 S2) a i = _
      rw [va_up_s]
      show (if 0 ≤ i ∧ i < 0 + S2 then d.1 a2 (0 + (i - 0)) else d.1 a i) = _
      rw [if_pos (by omega), Nat.sub_zero, Nat.zero_add]
      exact hV2 i hi
    · exact hrow.2.2 j (by omega) e _ _ (hv j (by omega))
end GR
