/-! roundByNearest of the reference -/
def W2 (R : Nat → Int32) (w : Option (Nat × Nat)) (l2 l4 : Int32) : Prop := (w = none ∧ l2 = -1) ∨ ∃ q, w = some q ∧ l2 = nI q.1 ∧ l4 = nI (bgn R q.1 q.2)
def LK (D : Nat → Nat) (i : Nat) (l5 : Int32) : Prop := (l5 = 0 ∧ ∀ t, t < i → D t = 0) ∨ (l5 = 1 ∧ ∃ t, t < i ∧ 0 < D t)
/-- what is done of what must be done -/
def DN (d : Dt) (z : Nat) (R : Nat → Int32) (D : Nat → Nat) : Prop := ∀ s, s < nn R 1 → ∃ e, d.1 (z + 260) s = nI e ∧ e + D s = T0 R s
section RN
variable {sh : Sh} {d d0 d' : Dt} {z : Nat} {R K : Nat → Int32} {u : Bool} {N n m k i c p q x F t b v : Nat} {D D' : Nat → Nat} {l : List (Nat × Nat × Nat)} {l3 : Int32} {w : Option (Nat × Nat)} {Q : Int32 × Dt → Prop}
theorem bgn_lt (hW : WS R) (hN : WN R) (ht : t < nn R 1) : bgn R t k < nn R 0 := by
  obtain ⟨-, q1, -, q2, -⟩ := ws_e hW hN ht
  unfold bgn
  split <;> omega
theorem ni_loop {k4 : Nat → Int32 → Int32 → Dt → Option (Int32 × Dt)} (hK : KS sh z) (hN : WN R) (hW : WS R) (hR : RCx d z R) (hc : c < nn R 0) (hD : DN d z R D) (hk : ∀ l2 l3 l4 l5 w, NRI R D c (2 ^ 28) (fun t _ => t < nn R 1) l3 w → W2 R w l2 l4 → LK D (nn R 1) l5 → Rn (f_X12_roundByNearest_195 N sh k4 (z + 242) (nI c) l2 l4 l5 d) Q) : ∀ (m i fu : Nat) (l2 l3 l4 l5 : Int32) (w : Option (Nat × Nat)), i + m = nn R 1 → m < fu → NRI R D c (2 ^ 28) (fun t _ => t < i) l3 w → W2 R w l2 l4 → LK D i l5 → Rn (f_X12_roundByNearest_23 N sh k4 fu (z + 242) (nI c) l2 l3 l4 l5 (nI i) d) Q
  | 0, i, fu, l2, l3, l4, l5, w, hi, hf, hn, hw, hl => by
    obtain ⟨fu, rfl⟩ : ∃ q, fu = q + 1 := ⟨fu - 1, by omega⟩
    have n1 := hN.2.1
    show Rn (g_X12_roundByNearest_23 N sh k4 (f_X12_roundByNearest_23 N sh k4 fu) (z + 242) (nI c) l2 l3 l4 l5 (nI i) d) _
    unfold g_X12_roundByNearest_23
    refine rdg hK hR.1 1 rfl (by decide) ?_
    rw [n1.1]
    refine rn_t (nI_le (by omega) (by omega)) ?_
    have e : i = nn R 1 := by omega
    rw [e] at hn hl
    exact hk l2 l3 l4 l5 w hn hw hl
  | m + 1, i, fu, l2, l3, l4, l5, w, hi, hf, hn, hw, hl => by
    obtain ⟨fu, rfl⟩ : ∃ q, fu = q + 1 := ⟨fu - 1, by omega⟩
    have n0 := hN.1.2
    have n1 := hN.2.1
    have hi1 : i < nn R 1 := by omega
    have ih := ni_loop hK hN hW hR hc hD hk m (i + 1) fu
    obtain ⟨e7, a2, e8, b2, hne⟩ := ws_e hW hN hi1
    obtain ⟨-, -, w5, w4, e3, b3⟩ := hW i hi1
    obtain ⟨e, he, hE⟩ := hD i hi1
    have hT := T0_le hW hi1
    show Rn (g_X12_roundByNearest_23 N sh k4 (f_X12_roundByNearest_23 N sh k4 fu) (z + 242) (nI c) l2 l3 l4 l5 (nI i) d) _
    unfold g_X12_roundByNearest_23
    refine rdg hK hR.1 1 rfl (by decide) ?_
    rw [n1.1]
    refine rn_f (nI_ge hi1 (by omega)) ?_
    refine rn_eq (m_must hK hW hN hR.1 hi1) ?_
    have skip : D i = 0 → Rn (f_X12_roundByNearest_189 N sh k4 (f_X12_roundByNearest_23 N sh k4 fu) (z + 242) (nI c) l2 l3 l4 l5 (nI i) d) Q := fun h0 => by
      unfold f_X12_roundByNearest_189
      rw [nI_1]
      refine ih l2 l3 l4 l5 w (by omega) (by omega) (hn.cg (fun t k n hc' => ⟨fun h => by omega, fun h => ?_⟩)) hw ?_
      · have h1 := hc'.2.1
        have : t ≠ i := fun e => by rw [e] at h1; omega
        omega
      · rcases hl with ⟨q1, q2⟩ | ⟨q1, t, q2, q3⟩
        · refine Or.inl ⟨q1, fun t ht => ?_⟩
          by_cases et : t = i
          · rw [et]
            exact h0
          · exact q2 t (by omega)
        · exact Or.inr ⟨q1, t, by omega, q3⟩
    by_cases hp : 0 < T0 R i
    · rw [if_pos hp]
      refine rn_f (by decide) ?_
      have eT : T0 R i = nn R (16 + 9 * i + 3) := by
        unfold T0 at hp ⊢
        by_cases h : R (16 + 9 * i + 4) = 0
        · rw [if_pos h]
        · rw [if_neg h] at hp
          omega
      refine r_gP hK 242 12 28 260 rfl (by decide) ?_
      refine rn_eq (q_aT (ks_a hK 260 0 150 rfl) i rfl (by omega) (by decide)) ?_
      refine rds hK hR.1 3 (by omega) (by decide) rfl ?_
      rw [he, e3, ← eT]
      by_cases h0 : D i = 0
      · exact rn_t (nI_le (by omega) (by omega)) (skip h0)
      · refine rn_f (nI_ge (by omega) (by omega)) ?_
        have hDi : 0 < D i := by omega
        refine rds hK hR.1 7 (by omega) (by decide) rfl ?_
        refine rds hK hR.1 8 (by omega) (by decide) rfl ?_
        rw [e7, e8]
        have hL : LK D (i + 1) 1 := Or.inr ⟨rfl, i, by omega, hDi⟩
        have two : ∀ l2 l3 l4 w, NRI R D c (2 ^ 28) (fun a e => a < i ∨ (a = i ∧ e = 0)) l3 w → W2 R w l2 l4 → Rn (f_X12_roundByNearest_137 N sh k4 (f_X12_roundByNearest_23 N sh k4 fu) (z + 242) (nI c) l2 l3 l4 1 (nI i) (nI (eB R i)) d) Q := fun l2 l3 l4 w hn hw => by
          unfold f_X12_roundByNearest_137 f_X12_roundByNearest_189
          refine rds hK hR.1 5 (by omega) (by decide) rfl ?_
          rw [nI_1]
          by_cases h5 : R (16 + 9 * i + 5) = 0
          · refine rn_f (fun q => q h5) ?_
            have st := hn.step (k := 1) (Nat.le_refl _) (by decide) (hR.2 c (eB R i) hc b2) hi1 hDi (Or.inr ⟨rfl, h5⟩) (fun t' k' h => by omega)
            have cg : ∀ {l3 w}, NRI R D c (2 ^ 28) (fun a e => (a < i ∨ (a = i ∧ e = 0)) ∨ (a = i ∧ e = 1)) l3 w → NRI R D c (2 ^ 28) (fun t _ => t < i + 1) l3 w := fun h => h.cg (fun t k n hc' => ⟨fun h => by omega, fun h => by
              rcases hc'.2.2.1 with e | e <;> omega⟩)
            refine r_gP hK 242 12 9 247 rfl (by decide) ?_
            refine rn_eq (q_aT (ks_a hK 247 0 3600 rfl) (60 * c + eB R i) (ix_far c _) (by omega) (by decide)) ?_
            refine rn_ite (fun q => ?_) (fun q => ?_)
            · exact ih l2 l3 l4 1 w (by omega) (by omega) (cg (st.1 q)) hw hL
            · refine r_gP hK 242 12 9 247 rfl (by decide) ?_
              refine rn_eq (q_aT (ks_a hK 247 0 3600 rfl) (60 * c + eB R i) (ix_far c _) (by omega) (by decide)) ?_
              exact ih (nI i) _ (nI (eB R i)) 1 (some (i, 1)) (by omega) (by omega) (cg (st.2 q)) (Or.inr ⟨(i, 1), rfl, rfl, rfl⟩) hL
          · refine rn_t h5 ?_
            refine ih l2 l3 l4 1 w (by omega) (by omega) (hn.cg (fun t k n hc' => ⟨fun h => by omega, fun h => ?_⟩)) hw hL
            have q := hc'.2.2.1
            by_cases et : t = i
            · rcases q with q | ⟨-, q⟩
              · exact Or.inr ⟨et, q⟩
              · rw [et] at q
                exact absurd q h5
            · exact Or.inl (by omega)
        have st := hn.step (k := 0) (Nat.le_refl _) (by decide) (hR.2 c (eA R i) hc a2) hi1 hDi (Or.inl rfl) (fun t' k' h => by omega)
        refine r_gP hK 242 12 9 247 rfl (by decide) ?_
        refine rn_eq (q_aT (ks_a hK 247 0 3600 rfl) (60 * c + eA R i) (ix_far c _) (by omega) (by decide)) ?_
        refine rn_ite (fun q => two l2 l3 l4 w (st.1 q) hw) (fun q => ?_)
        refine r_gP hK 242 12 9 247 rfl (by decide) ?_
        refine rn_eq (q_aT (ks_a hK 247 0 3600 rfl) (60 * c + eA R i) (ix_far c _) (by omega) (by decide)) ?_
        exact two (nI i) _ (nI (eA R i)) (some (i, 0)) (st.2 q) (Or.inr ⟨(i, 0), rfl, rfl, rfl⟩)
    · rw [if_neg hp]
      exact rn_t rfl (skip (by omega))
theorem nrB_ld (hW : WS R) (hN : WN R) (h : nrB R D c t k) : ldv R t (nI (bgn R t k)) = nI (oth R t (bgn R t k)) ∧ t < nn R 1 ∧ 0 < D t ∧ (∃ n, dst R c (bgn R t k) n) ∧ oth R t (bgn R t k) < nn R 0 := by
  have n0 := hN.1.2
  obtain ⟨n, ⟨h1, h2, h3, h4⟩, -⟩ := h
  obtain ⟨e7, a2, e8, b2, hne⟩ := ws_e hW hN h1
  refine ⟨?_, h1, h2, ⟨n, h4⟩, oth_lt hW hN h1⟩
  unfold ldv oth bgn
  rcases h3 with rfl | ⟨rfl, h5⟩
  · rw [if_pos rfl, if_pos e7, e8, if_pos rfl]
  · rw [if_neg (show ¬ (1 : Nat) = 0 by decide), if_neg (fun q => hne (nI_inj (e7.symm.trans q) (by omega) (by omega))), if_pos ⟨e8, h5⟩, e7, if_neg hne]
theorem no_loop (hN1 : 1000 ≤ N) (hK : KS sh z) (hN : WN R) (hW : WS R) : ∀ (m fu c : Nat) (D : Nat → Nat) (l : List (Nat × Nat × Nat)) (d : Dt) (l2 : Int32), smN D (nn R 1) = m → m + 1 < fu → RCx d z R → c < nn R 0 → DN d z R D → DRl z d l → l.length ≤ 2000 → l2 ≠ -1 → Rn (f_X12_roundByNearest_4 N sh fu (z + 242) (nI c) l2 d) (fun r => DVF z d r.2 ∧ r.1 = (nrF R m D c l).1 ∧ (r.1 = 0 → DRl z r.2 (nrF R m D c l).2))
  | m, fu, c, D, l, d, l2, hm, hf, hR, hc, hD, hL, hl, h2 => by
    obtain ⟨fu, rfl⟩ : ∃ q, fu = q + 1 := ⟨fu - 1, by omega⟩
    have n0 := hN.1
    have n1 := hN.2.1.2
    show Rn (g_X12_roundByNearest_4 N sh (f_X12_roundByNearest_4 N sh fu) (z + 242) (nI c) l2 d) _
    unfold g_X12_roundByNearest_4
    refine rn_f h2 ?_
    refine ni_loop (D := D) hK hN hW hR hc hD (fun l2 l3 l4 l5 w hn hw hk => ?_) (nn R 1) 0 N _ _ _ _ none (by omega) (by omega) (Or.inl ⟨rfl, rfl, fun t k n h _ => absurd h (Nat.not_lt_zero t)⟩) (Or.inl ⟨rfl, rfl⟩) (Or.inl ⟨rfl, fun t h => absurd h (Nat.not_lt_zero t)⟩)
    have fn := hn.fin (fun t k n h => h.1)
    unfold f_X12_roundByNearest_195 f_X12_roundByNearest_205
    cases m with
    | zero =>
      have z0D := smN_0 _ hm
      have hl5 : l5 = 0 := by
        rcases hk with ⟨q, -⟩ | ⟨-, t, q1, q2⟩
        · exact q
        · have := z0D t q1
          omega
      have hwn : w = none := by
        rcases fn with ⟨q, -⟩ | ⟨-, -, n, q, -⟩
        · exact q
        · have := z0D _ q.1
          have := q.2.1
          omega
      have hl2 : l2 = -1 := by
        rcases hw with ⟨-, q⟩ | ⟨q, q1, -⟩
        · exact q
        · rw [hwn] at q1
          cases q1
      refine rn_t hl5 ?_
      unfold f_X12_roundByNearest_208 f_X12_roundByNearest_258
      refine rn_t hl2 ?_
      obtain ⟨fu, rfl⟩ : ∃ q, fu = q + 1 := ⟨fu - 1, by omega⟩
      show Rn (g_X12_roundByNearest_4 N sh (f_X12_roundByNearest_4 N sh fu) (z + 242) (nI c) l2 d) _
      unfold g_X12_roundByNearest_4
      refine rn_t hl2 ?_
      unfold f_X12_roundByNearest_261
      refine rdg hK hR.1 0 rfl (by decide) ?_
      rw [n0.1]
      refine rn_f (nI_ge (b := nn R 0) (a := 0) (by omega) (by omega)) ?_
      refine r_gP hK 242 12 9 247 rfl (by decide) ?_
      refine rn_eq (q_aT (ks_a hK 247 0 3600 rfl) (60 * c + 0) ?_ (by omega) (by decide)) ?_
      · exact pk_mul 60 c
      · show Rn _ (fun r : Int32 × Dt => DVF z d r.2 ∧ r.1 = (nrE R c l).1 ∧ (r.1 = 0 → DRl z r.2 (nrE R c l).2))
        unfold nrE
        rcases hR.2 c 0 hc (by omega) with ⟨n, g1, g2, g3⟩ | ⟨g1, g3⟩
        · rw [g3, ite_p (show ∃ n, dst R c 0 n from ⟨n, g1⟩)]
          refine rn_t (nI_lt (b := 268435456) g2 (by decide)) ?_
          unfold f_X12_roundByNearest_287 f_X12_roundByNearest_310
          refine rn_bind (m_drivesEmpty (b := 0) (by omega) hK hN hW (by omega) hc g1 hR hL (by omega)) (fun r hr => ?_)
          obtain ⟨r1, r2, r3⟩ := hr
          have el := emL_len (R := R) (b := 0) 60 c
          have elen : (l ++ emL R 0 60 c).length = l.length + (emL R 0 60 c).length := List.length_append
          refine r_gI hK (i := 242) (c := 12) rfl ?_
          rw [r3.1]
          by_cases hle : (l ++ emL R 0 60 c).length ≤ 2000
          · rw [if_pos hle]
            exact rn_t (nI_le (b := 2000) hle (by decide)) (rn_some ⟨r2.dv, rfl, fun _ => r3⟩)
          · rw [if_neg hle]
            exact rn_f (nI_ge (b := (l ++ emL R 0 60 c).length) (a := 2000) (by omega) (by omega)) (rn_some ⟨r2.dv, rfl, fun q => absurd (show (-3 : Int32) = 0 from q) (by decide)⟩)
        · have g4 : ¬ ∃ n, dst R c 0 n := fun ⟨n, ⟨p, hp, _⟩, _⟩ => g1 p hp
          rw [g3, ite_n g4]
          exact rn_f (by decide) (rn_some ⟨DVF.rf, rfl, fun q => absurd (show (-8 : Int32) = 0 from q) (by decide)⟩)
    | succ m =>
      have hl5 : l5 = 1 := by
        rcases hk with ⟨-, q⟩ | ⟨q, -⟩
        · have : smN D (nn R 1) ≤ smN (fun _ => 0) (nn R 1) := smN_le _ (fun k hk => Nat.le_of_eq (q k hk))
          rw [smN_0f] at this
          omega
        · exact q
      refine rn_f (by rw [hl5]; decide) ?_
      rcases fn with ⟨q1, q2⟩ | ⟨q1, q2, q3⟩
      · have hl2 : l2 = -1 := by
          rcases hw with ⟨-, q⟩ | ⟨q, q3, -⟩
          · exact q
          · rw [q1] at q3
            cases q3
        have e : nrF R (m + 1) D c l = (-8, []) := ite_n q2
        rw [e]
        refine rn_f (fun q => q hl2) ?_
        exact rn_some ⟨DVF.rf, rfl, fun q => absurd (show (-8 : Int32) = 0 from q) (by decide)⟩
      · obtain ⟨w1, w2⟩ : l2 = nI (nrX R D c).1 ∧ l4 = nI (bgn R (nrX R D c).1 (nrX R D c).2) := by
          rcases hw with ⟨q, -⟩ | ⟨q, q4, q5, q6⟩
          · rw [q1] at q
            cases q
          · rw [q1] at q4
            have e := Option.some.inj q4
            rw [e]
            exact ⟨q5, q6⟩
        obtain ⟨g1, g2, g3, ⟨n, g4⟩, g5⟩ := nrB_ld hW hN q3
        have e : nrF R (m + 1) D c l = _ := ite_p q2
        rw [e]
        have hl2 : ¬ l2 = -1 := by rw [w1]; exact nI_m1 (by omega)
        refine rn_t hl2 ?_
        unfold f_X12_roundByNearest_208 f_X12_roundByNearest_255 f_X12_roundByNearest_258
        refine rn_f hl2 ?_
        rw [w1, w2]
        refine rn_bind (m_drivesEmpty (by omega) hK hN hW (bgn_lt hW hN g2) hc g4 hR hL (by omega)) (fun r hr => ?_)
        obtain ⟨r1, r2, r3⟩ := hr
        rw [r1]
        have el := emL_len (R := R) (b := bgn R (nrX R D c).1 (nrX R D c).2) 60 c
        have elen : (l ++ emL R (bgn R (nrX R D c).1 (nrX R D c).2) 60 c).length = l.length + (emL R (bgn R (nrX R D c).1 (nrX R D c).2) 60 c).length := List.length_append
        refine rn_bind (m_drive (v := 1) hK (by omega) r3) (fun d2 h3 => ?_)
        obtain ⟨s1, s2⟩ := h3
        have s2 : DRl z d2 (nrL R D c l) := s2
        have enl : (nrL R D c l).length = (l ++ emL R (bgn R (nrX R D c).1 (nrX R D c).2) 60 c).length + 1 := by
          unfold nrL
          rw [List.length_append]
          rfl
        have f2 : DVF z d d2 := (r2.tr s1).dv
        obtain ⟨e0, v1, v2⟩ := hD _ g2
        refine r_gP hK 242 12 28 260 rfl (by decide) ?_
        have e60 : d2.1 (z + 260) = d.1 (z + 260) := (r2.tr s1).2.1 _ (by omega) (by omega) (by omega) (by omega)
        refine rn_eq (q_aT (ks_a hK 260 0 150 rfl) (nrX R D c).1 rfl (by omega) (by decide)) ?_
        refine rn_eq (q_sI (ks_a hK 260 0 150 rfl) (nrX R D c).1 rfl (by omega) (by decide)) ?_
        rw [e60, v1, nI_1]
        have fw : DVF z d (wI d2 (z + 260) (nrX R D c).1 (nI (e0 + 1))) := f2.tr DVF.w
        refine rn_eq (m_leads hK (fw.rb.rc hR).1 (by omega)) ?_
        rw [g1]
        refine r_gI hK (i := 242) (c := 12) rfl ?_
        rw [wI_n (by omega), s2.1]
        by_cases hle : (nrL R D c l).length ≤ 2000
        · rw [if_pos hle]
          refine rn_t (nI_le (b := 2000) hle (by decide)) ?_
          have hsm := dec_sm (T := D) g2 g3
          refine rn_mono (no_loop hN1 hK hN hW m fu _ (dec1 D (nrX R D c).1) (nrL R D c l) _ (nI (nrX R D c).1) (by omega) (by omega) (fw.rb.rc hR) g5 (fun s hs => ?_) ⟨?_, fun i hi hi2 => ?_⟩ hle (nI_m1 (by omega))) (fun r h5 => ⟨fw.tr h5.1, h5.2⟩)
          · rw [wI_s]
            by_cases es : s = (nrX R D c).1
            · refine ⟨e0 + 1, by rw [es, va_up_s], ?_⟩
              have : dec1 D (nrX R D c).1 s = D (nrX R D c).1 - 1 := by
                unfold dec1
                rw [es, va_up_s]
              rw [this, es]
              omega
            · obtain ⟨e1, y1, y2⟩ := hD s hs
              refine ⟨e1, by rw [va_up_n es, e60]; exact y1, ?_⟩
              have : dec1 D (nrX R D c).1 s = D s := by
                unfold dec1
                rw [va_up_n es]
              rw [this]
              exact y2
          · rw [wI_n (by omega)]
            exact s2.1
          · rw [wI_n (by omega), wI_n (by omega), wI_n (by omega)]
            exact s2.2 i hi hi2
        · rw [if_neg hle]
          exact rn_f (nI_ge (b := (nrL R D c l).length) (a := 2000) (by omega) (by omega)) (rn_some ⟨fw, rfl, fun q => absurd (show (-3 : Int32) = 0 from q) (by decide)⟩)
noncomputable def nbR (R : Nat → Int32) : Int32 × List (Nat × Nat × Nat) := nrF R (smN (T0 R) (nn R 1)) (T0 R) 0 []
theorem m_roundByNearest (hN1 : 1000 ≤ N) (hK : KS sh z) (hN : WN R) (hW : WS R) (hR : RCx d z R) (h0 : 0 < nn R 0) (hL : DRl z d []) (hE : ∀ s, s < nn R 1 → d.1 (z + 260) s = 0) : Rn (f_X12_roundByNearest N sh (z + 242) d) (fun r => DVF z d r.2 ∧ r.1 = (nbR R).1 ∧ (r.1 = 0 → DRl z r.2 (nbR R).2)) := by
  unfold f_X12_roundByNearest
  refine rn_t (ks_o hK 242 12 rfl) ?_
  have b1 : smN (T0 R) (nn R 1) ≤ smN (fun _ => 2) (nn R 1) := smN_le _ (fun k hk => T0_le hW hk)
  rw [smN_const] at b1
  have n1 := hN.2.1.2
  exact no_loop hN1 hK hN hW _ N 0 (T0 R) [] d 0 rfl (by omega) hR h0 (fun s hs => ⟨0, hE s hs, Nat.zero_add _⟩) hL (by decide) (by decide)
end RN
