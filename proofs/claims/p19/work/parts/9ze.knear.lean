/-! nearestStart and driveTo of the planner -/
/-- a table of DRIVES that grows: the state is kept -/
def GRQ (s0 : AS) (z : Nat) (ow0 : Nat → Nat) (R : Nat → Int32) (T D : Nat → Nat) (c : Nat) (l : List (Nat × Nat × Nat)) (Lp0 L : Nat → Nat) (M : Nat → Prop) (s' : AS) : Prop := ∃ ow' Lp', ES (IX z ow0 221 234) s0 ow0 s' ow' ∧ KP s' z ow' R T D c l Lp' L M ∧ l.length ≤ 2000 ∧ s'.1.1.2.2 + 2 * smN Lp0 4 ≤ s0.1.1.2.2 + 2 * smN Lp' 4 ∧ s'.1.1.2.1 + smN Lp0 4 ≤ s0.1.1.2.1 + smN Lp' 4
/-- .. whatever stands in it -/
def GRA (s0 : AS) (z : Nat) (ow0 : Nat → Nat) (R : Nat → Int32) (Lp0 L : Nat → Nat) (M : Nat → Prop) (s' : AS) : Prop := ∃ T D c l, GRQ s0 z ow0 R T D c l Lp0 L M s'
section KNR
variable {s s' s0 s1 : AS} {sh : Sh} {d d0 d' : Dt} {z : Nat} {ow ow' ow0 : Nat → Nat} {R K : Nat → Int32} {u : Bool} {y : YL} {N n m k i j c p q x e v a b t cc : Nat} {T T' D L Lp Lp0 Lp' : Nat → Nat} {M : Nat → Prop} {l : List (Nat × Nat × Nat)} {w : Option (Nat × Nat)}
theorem GRQ.any (h : GRQ s0 z ow0 R T D c l Lp0 L M s') : GRA s0 z ow0 R Lp0 L M s' := ⟨T, D, c, l, h⟩
theorem GRQ.rf (h : KP s z ow R T D c l Lp L M) (hl : l.length ≤ 2000) : GRQ s z ow R T D c l Lp L M s := ⟨ow, Lp, ES.rf, h, hl, Nat.le_refl _, Nat.le_refl _⟩
theorem oth_nxt (hW : WS R) (hN : WN R) (hc : c < 2 ^ 31) (h : nxS R b c (nxt R b c).1 (nxt R b c).2) : oth R (nxt R b c).1 c = (nxt R b c).2 := by
  have n0 := hN.1.2
  obtain ⟨h1, ⟨h2, h3, h4⟩, -⟩ := h.1
  obtain ⟨e7, a2, e8, b2, hne⟩ := ws_e hW hN h2
  unfold oth
  rcases h4 with ⟨q1, q2⟩ | ⟨-, q1, q2⟩
  · rw [e7] at q1
    rw [e8] at q2
    rw [if_pos (nI_inj q1 (by omega) hc)]
    exact nI_inj q2 (by omega) (by omega)
  · rw [e8] at q1
    rw [e7] at q2
    have g := nI_inj q1 (by omega) hc
    rw [if_neg (by omega)]
    exact nI_inj q2 (by omega) (by omega)
theorem dt_stop {k24 : Nat → Int32 → Int32 → Int32 → AS → Option (Int32 × AS)} {g l3 : Int32} (hK : KS s.1 z) : g_X5_driveTo_24 N k24 (z + 221) g (-3) l3 s = some (-3, s) := by
  refine rn_val ?_
  unfold g_X5_driveTo_24 f_X5_driveTo_81
  refine rn_ite (fun _ => rn_some rfl) (fun _ => ?_)
  refine r_gI hK (i := 221) (c := 5) rfl ?_
  refine rn_ite (fun _ => rn_some rfl) (fun _ => ?_)
  exact rn_t (by decide) (rn_some rfl)
theorem dt_loop (hN2 : 300 ≤ N) (hN : WN R) (hW : WS R) (hb : b < nn R 0) (hM : M b) : ∀ (m k fu c : Nat) (s : AS) (l : List (Nat × Nat × Nat)), k + m = 60 → m + 1 < fu → rk R b m c → c < nn R 0 → GRQ s0 z ow0 R T D c l Lp0 L M s → Rn (f_X5_driveTo_24 N fu (z + 221) (nI b) 0 (nI k) s) (fun r => (r.1 = 0 ∧ (l ++ emL R b m c).length ≤ 2000 ∧ GRQ s0 z ow0 R T D b (l ++ emL R b m c) Lp0 L M r.2) ∨ (r.1 = -3 ∧ 2000 < (l ++ emL R b m c).length ∧ GRA s0 z ow0 R Lp0 L M r.2))
  | m, k, fu, c, s, l, hk, hf, hr, hc, h => by
    obtain ⟨fu, rfl⟩ : ∃ q, fu = q + 1 := ⟨fu - 1, by omega⟩
    have n0 := hN.1.2
    have n1 := hN.2.1.2
    obtain ⟨ow, Lp, es, kp, hl, m1, m2⟩ := id h
    have hK := kp.1
    have hX := kp.2.2.2.2.2.2.2
    show Rn (g_X5_driveTo_24 N (f_X5_driveTo_24 N fu) (z + 221) (nI b) 0 (nI k) s) _
    have here : c = b → (l ++ emL R b m c).length ≤ 2000 ∧ GRQ s0 z ow0 R T D b (l ++ emL R b m c) Lp0 L M s := fun e => by
      have em : emL R b m c = [] := by
        cases m with
        | zero => rfl
        | succ m => exact if_pos e
      rw [em, List.append_nil]
      subst e
      exact ⟨hl, h⟩
    unfold g_X5_driveTo_24 f_X5_driveTo_81
    cases m with
    | zero =>
      refine rn_t (nI_le (a := 60) (by omega) (by omega)) ?_
      have g := here hr
      exact rn_some (Or.inl ⟨rfl, g.1, g.2⟩)
    | succ m =>
      refine rn_f (nI_ge (b := 60) (by omega) (by decide)) ?_
      refine r_gI hK (i := 221) (c := 5) rfl ?_
      rw [kp.2.2.2.1]
      by_cases e : c = b
      · refine rn_t (by rw [e]) ?_
        have g := here e
        exact rn_some (Or.inl ⟨rfl, g.1, g.2⟩)
      · refine rn_f (fun q => e (nI_inj q (by omega) (by omega))) ?_
        refine rn_f (fun q => q rfl) ?_
        rcases hr with hr | ⟨⟨n, hd⟩, hx, hr⟩
        · exact absurd hr e
        have st := hx.1
        have hs := st.2.1.1
        have ho := oth_nxt hW hN (by omega) hx
        have em : emL R b (m + 1) c = ((nxt R b c).1, c, 0) :: emL R b m (nxt R b c).2 := if_neg e
        refine r_gP hK 221 5 1 77 rfl (by decide) ?_
        refine r_gI hK (i := 221) (c := 5) rfl ?_
        rw [kp.2.2.2.1]
        refine rn_eq ((k_nextStreet hN2 hK hN hW hX.1 hX.2.1 hX.2.2.1 hb (fun a ha => (hX.2.2.2 b hM).2 a ha) hc).1 ⟨n, hd⟩ e) ?_
        refine rn_t (nI_m1 (by omega)) ?_
        refine rn_bind (k_addDrive (v := 0) (by decide) (fun q => absurd q (by decide)) hN2 hN hW hs (by omega) hl kp) (fun r hr9 => ?_)
        unfold f_X5_driveTo_74
        rw [nI_1]
        rcases hr9 with ⟨g1, g2⟩ | ⟨g1, g2, ow2, Lp2, es2, kp2, k1, k2⟩
        · rw [g2]
          obtain ⟨fu, rfl⟩ : ∃ q, fu = q + 1 := ⟨fu - 1, by omega⟩
          show Rn (g_X5_driveTo_24 N (f_X5_driveTo_24 N fu) (z + 221) (nI b) (-3) (nI (k + 1)) s) _
          rw [dt_stop hK]
          refine rn_some (Or.inr ⟨rfl, ?_, h.any⟩)
          rw [em, List.length_append, List.length_cons]
          omega
        · rw [g2]
          have kp2 : KP r.2 z ow2 R T D (nxt R b c).2 (l ++ [((nxt R b c).1, c, 0)]) Lp2 L M := by
            have := kp2
            rw [ho] at this
            exact this
          have k1 : r.2.1.1.2.2 + 2 * smN Lp 4 ≤ s.1.1.2.2 + 2 * smN Lp2 4 := k1
          have k2 : r.2.1.1.2.1 + smN Lp 4 ≤ s.1.1.2.1 + smN Lp2 4 := k2
          have gq : GRQ s0 z ow0 R T D (nxt R b c).2 (l ++ [((nxt R b c).1, c, 0)]) Lp0 L M r.2 := ⟨ow2, Lp2, es_tr es es2, kp2, by rw [List.length_append]; show l.length + 1 ≤ 2000; omega, by omega, by omega⟩
          have ea : l ++ emL R b (m + 1) c = (l ++ [((nxt R b c).1, c, 0)]) ++ emL R b m (nxt R b c).2 := by
            rw [em, List.append_assoc]
            rfl
          rw [ea]
          exact dt_loop hN2 hN hW hb hM m (k + 1) fu _ r.2 _ (by omega) (by omega) hr st.1 gq
theorem k_driveTo (hN2 : 300 ≤ N) (hN : WN R) (hW : WS R) (hb : b < nn R 0) (hM : M b) (hc : c < nn R 0) (h : GRQ s0 z ow0 R T D c l Lp0 L M s) : Rn (f_X5_driveTo N (z + 221) (nI b) s) (fun r => ((∃ n, dst R c b n) ∧ ((r.1 = 0 ∧ (l ++ emL R b 60 c).length ≤ 2000 ∧ GRQ s0 z ow0 R T D b (l ++ emL R b 60 c) Lp0 L M r.2) ∨ (r.1 = -3 ∧ 2000 < (l ++ emL R b 60 c).length ∧ GRA s0 z ow0 R Lp0 L M r.2))) ∨ ((¬ ∃ n, dst R c b n) ∧ r.1 = -8 ∧ GRA s0 z ow0 R Lp0 L M r.2)) := by
  have n0 := hN.1.2
  obtain ⟨ow, Lp, es, kp, hl, m1, m2⟩ := id h
  have hK := kp.1
  have hX := kp.2.2.2.2.2.2.2
  unfold f_X5_driveTo
  refine rn_t (ks_o hK 221 5 rfl) ?_
  refine r_gP hK 221 5 1 77 rfl (by decide) ?_
  refine r_gI hK (i := 221) (c := 5) rfl ?_
  rw [kp.2.2.2.1]
  refine rn_eq (k_between hK hX.1 (by omega) (by omega)) ?_
  rcases (hX.2.2.2 b hM).2 c (by omega) with ⟨n, g1, g2, g3⟩ | ⟨g1, g3⟩
  · rw [g3]
    refine rn_t (nI_lt (b := 1000000000) (by omega) (by decide)) ?_
    exact rn_mono (dt_loop hN2 hN hW hb hM 60 0 N c s l (by omega) (by omega) (rk_60 hW hN g1) hc h) (fun r hr => Or.inl ⟨⟨n, g1⟩, hr⟩)
  · rw [g3]
    refine rn_f (by decide) ?_
    exact rn_some (Or.inr ⟨fun ⟨n, ⟨p, hp, _⟩, _⟩ => g1 p hp, rfl, h.any⟩)
/-! nearestStart -/
def W3 (w : Option (Nat × Nat)) (l1 : Int32) : Prop := (w = none ∧ l1 = -1) ∨ ∃ q, w = some q ∧ l1 = nI (2 * q.1 + q.2)
theorem ns_loop (hN2 : 300 ≤ N) (hN : WN R) (hW : WS R) (hc : c < nn R 0) (h : KP s z ow R T D c l Lp L M) (hM : ∀ t, t < nn R 1 → 0 < D t → M (eA R t) ∧ M (eB R t)) : ∀ (m i fu : Nat) (l1 l2 : Int32) (w : Option (Nat × Nat)), i + m = nn R 1 → m < fu → NRI R D c 1000000000 (fun t _ => t < i) l2 w → W3 w l1 → Rn (f_X5_nearestStart_7 N s.1 s.2 fu (z + 221) l1 l2 (nI i)) (fun r => ∃ l2 w, NRI R D c 1000000000 (fun t _ => t < nn R 1) l2 w ∧ W3 w r)
  | 0, i, fu, l1, l2, w, hi, hf, hn, hw => by
    obtain ⟨fu, rfl⟩ : ∃ q, fu = q + 1 := ⟨fu - 1, by omega⟩
    have n1 := hN.2.1.2
    show Rn (g_X5_nearestStart_7 N s.1 (f_X5_nearestStart_7 N s.1 s.2 fu) (z + 221) l1 l2 (nI i) s.2) _
    unfold g_X5_nearestStart_7 f_X5_nearestStart_154
    refine r_gI h.1 (i := 221) (c := 5) rfl ?_
    rw [h.2.2.1.1]
    refine rn_t (nI_le (by omega) (by omega)) ?_
    have e : i = nn R 1 := by omega
    rw [e] at hn
    exact rn_some ⟨l2, w, hn, hw⟩
  | m + 1, i, fu, l1, l2, w, hi, hf, hn, hw => by
    obtain ⟨fu, rfl⟩ : ∃ q, fu = q + 1 := ⟨fu - 1, by omega⟩
    have n0 := hN.1.2
    have n1 := hN.2.1.2
    have hi1 : i < nn R 1 := by omega
    have hK := h.1
    obtain ⟨pa, pb, -, -⟩ := h.2.2.1.2 i hi1
    obtain ⟨d1, d2⟩ := h.2.2.2.2.1 i hi1
    have hX := h.2.2.2.2.2.2.2
    obtain ⟨e7, a2, e8, b2, hne⟩ := ws_e hW hN hi1
    have ih := ns_loop hN2 hN hW hc h hM m (i + 1) fu
    have bt : ∀ b, b < nn R 0 → f_X10_between N s.1 (z + 77) (nI c) (nI b) s.2 = some (s.2.1 (z + (141 + b)) c) := fun b hb => k_between hK hX.1 (by omega) (by omega)
    show Rn (g_X5_nearestStart_7 N s.1 (f_X5_nearestStart_7 N s.1 s.2 fu) (z + 221) l1 l2 (nI i) s.2) _
    have two : ∀ l1 l2 w, NRI R D c 1000000000 (fun a e => a < i ∨ (a = i ∧ e = 0)) l2 w → W3 w l1 → Rn (f_X5_nearestStart_67 N s.1 (f_X5_nearestStart_7 N s.1 s.2 fu) (z + 221) l1 l2 (nI i) s.2) (fun r => ∃ l2 w, NRI R D c 1000000000 (fun t _ => t < nn R 1) l2 w ∧ W3 w r) := fun l1 l2 w hn hw => by
      unfold f_X5_nearestStart_67
      refine r_gP hK 221 5 0 3 rfl (by decide) ?_
      refine r_gP hK 3 1 1 4 rfl (by decide) ?_
      refine rn_eq (tb_get (o := 4) (nc := 9) (c := 5) hK (by decide) hX.2.1 rfl hi1 rfl (by decide)) ?_
      have v5 : vS R 5 i = R (16 + 9 * i + 5) := rfl
      rw [v5]
      have no : (∀ n, nrC R D c i 1 n → False) → ∀ t0, t0 = 0 ∨ ¬ 0 < D i → Rn (f_X5_nearestStart_87 N s.1 (f_X5_nearestStart_7 N s.1 s.2 fu) (z + 221) l1 l2 (nI i) t0 s.2) (fun r => ∃ l2 w, NRI R D c 1000000000 (fun t _ => t < nn R 1) l2 w ∧ W3 w r) := fun hno t0 ht0 => by
        have go : Rn (f_X5_nearestStart_148 N s.1 (f_X5_nearestStart_7 N s.1 s.2 fu) (z + 221) l1 l2 (nI i) s.2) (fun r => ∃ l2 w, NRI R D c 1000000000 (fun t _ => t < nn R 1) l2 w ∧ W3 w r) := by
          unfold f_X5_nearestStart_148
          rw [nI_1]
          refine ih l1 l2 w (by omega) (by omega) (hn.cg (fun t k n hc' => ⟨fun g => by omega, fun g => ?_⟩)) hw
          by_cases et : t = i
          · subst et
            rcases hc'.2.2.1 with q | ⟨q, -⟩
            · exact Or.inr ⟨rfl, q⟩
            · subst q
              exact (hno n hc').elim
          · exact Or.inl (by omega)
        unfold f_X5_nearestStart_87
        refine r_gP hK 221 5 10 233 rfl (by decide) ?_
        refine rn_eq (q_aT (ks_a hK 233 0 150 rfl) i rfl (by omega) (by decide)) ?_
        rw [d1]
        rcases ht0 with q | q
        · exact rn_ite (fun _ => go) (fun _ => rn_t q go)
        · exact rn_t (nI_le (b := 0) (by omega) (by omega)) go
      by_cases h5 : R (16 + 9 * i + 5) = 0
      · refine rn_f (fun q => q h5) ?_
        by_cases hD : 0 < D i
        · unfold f_X5_nearestStart_87
          refine r_gP hK 221 5 10 233 rfl (by decide) ?_
          refine rn_eq (q_aT (ks_a hK 233 0 150 rfl) i rfl (by omega) (by decide)) ?_
          rw [d1]
          refine rn_f (nI_ge (b := D i) (a := 0) hD (by omega)) ?_
          refine rn_f (by decide) ?_
          have st := hn.step (k := 1) (by decide) (by decide) ((hX.2.2.2 _ (hM i hi1 hD).2).2 c (by omega)) hi1 hD (Or.inr ⟨rfl, h5⟩) (fun t' k' g => by omega)
          have cg : ∀ {l3 w}, NRI R D c 1000000000 (fun a e => (a < i ∨ (a = i ∧ e = 0)) ∨ (a = i ∧ e = 1)) l3 w → NRI R D c 1000000000 (fun t _ => t < i + 1) l3 w := fun g => g.cg (fun t k n hc' => ⟨fun g => by omega, fun g => by
            rcases hc'.2.2.1 with e | e <;> omega⟩)
          refine r_gP hK 221 5 1 77 rfl (by decide) ?_
          refine r_gI hK (i := 221) (c := 5) rfl ?_
          rw [h.2.2.2.1]
          refine r_gP hK 221 5 7 231 rfl (by decide) ?_
          refine rn_eq (q_aT (ks_a hK 231 0 150 rfl) i rfl (by omega) (by decide)) ?_
          rw [pb]
          refine rn_eq (bt _ b2) ?_
          unfold f_X5_nearestStart_148
          rw [nI_1]
          refine rn_ite (fun q => ?_) (fun q => ?_)
          · exact ih l1 l2 w (by omega) (by omega) (cg (st.1 q)) hw
          · refine r_gP hK 221 5 1 77 rfl (by decide) ?_
            refine r_gI hK (i := 221) (c := 5) rfl ?_
            rw [h.2.2.2.1]
            refine r_gP hK 221 5 7 231 rfl (by decide) ?_
            refine rn_eq (q_aT (ks_a hK 231 0 150 rfl) i rfl (by omega) (by decide)) ?_
            rw [pb]
            refine rn_eq (bt _ b2) ?_
            have e2 : (2 : Int32) * nI i + 1 = nI (2 * i + 1) := by rw [show (2 : Int32) = nI 2 from rfl, pk_mul, nI_1]
            rw [e2]
            exact ih _ _ (some (i, 1)) (by omega) (by omega) (cg (st.2 q)) (Or.inr ⟨(i, 1), rfl, rfl⟩)
        · exact no (fun n g => hD g.2.1) 1 (Or.inr hD)
      · refine rn_t h5 ?_
        exact no (fun n g => by
          rcases g.2.2.1 with q | ⟨-, q⟩
          · exact absurd q (by decide)
          · exact h5 q) 0 (Or.inl rfl)
    unfold g_X5_nearestStart_7
    refine r_gI hK (i := 221) (c := 5) rfl ?_
    rw [h.2.2.1.1]
    refine rn_f (nI_ge hi1 (by omega)) ?_
    refine r_gP hK 221 5 10 233 rfl (by decide) ?_
    refine rn_eq (q_aT (ks_a hK 233 0 150 rfl) i rfl (by omega) (by decide)) ?_
    rw [d1]
    by_cases hD : 0 < D i
    · refine rn_f (nI_ge (b := D i) (a := 0) hD (by omega)) ?_
      have st := hn.step (k := 0) (by decide) (by decide) ((hX.2.2.2 _ (hM i hi1 hD).1).2 c (by omega)) hi1 hD (Or.inl rfl) (fun t' k' g => by omega)
      refine r_gP hK 221 5 1 77 rfl (by decide) ?_
      refine r_gI hK (i := 221) (c := 5) rfl ?_
      rw [h.2.2.2.1]
      refine r_gP hK 221 5 6 230 rfl (by decide) ?_
      refine rn_eq (q_aT (ks_a hK 230 0 150 rfl) i rfl (by omega) (by decide)) ?_
      rw [pa]
      refine rn_eq (bt _ a2) ?_
      refine rn_ite (fun q => two l1 l2 w (st.1 q) hw) (fun q => ?_)
      refine r_gP hK 221 5 1 77 rfl (by decide) ?_
      refine r_gI hK (i := 221) (c := 5) rfl ?_
      rw [h.2.2.2.1]
      refine r_gP hK 221 5 6 230 rfl (by decide) ?_
      refine rn_eq (q_aT (ks_a hK 230 0 150 rfl) i rfl (by omega) (by decide)) ?_
      rw [pa]
      refine rn_eq (bt _ a2) ?_
      have e2 : (2 : Int32) * nI i = nI (2 * i + 0) := pk_mul 2 i
      rw [e2]
      exact two _ _ (some (i, 0)) (st.2 q) (Or.inr ⟨(i, 0), rfl, rfl⟩)
    · refine rn_t (nI_le (b := 0) (by omega) (by omega)) ?_
      refine two l1 l2 w (hn.cg (fun t k n hc' => ⟨fun g => Or.inl g, fun g => ?_⟩)) hw
      rcases g with g | ⟨g, -⟩
      · exact g
      · subst g
        exact absurd hc'.2.1 hD
theorem k_nearestStart (hN2 : 300 ≤ N) (hN : WN R) (hW : WS R) (hc : c < nn R 0) (h : KP s z ow R T D c l Lp L M) (hM : ∀ t, t < nn R 1 → 0 < D t → M (eA R t) ∧ M (eB R t)) : Rn (f_X5_nearestStart N s.1 (z + 221) s.2) (fun r => (r = -1 ∧ ¬ ∃ t k, nrB R D c t k) ∨ (r = nI (2 * (nrX R D c).1 + (nrX R D c).2) ∧ (∃ t k, nrB R D c t k) ∧ nrB R D c (nrX R D c).1 (nrX R D c).2)) := by
  unfold f_X5_nearestStart
  refine rn_t (ks_o h.1 221 5 rfl) ?_
  refine rn_mono (ns_loop hN2 hN hW hc h hM (nn R 1) 0 N (-1) 1000000000 none (by omega) (by have := hN.2.1.2; omega) (Or.inl ⟨rfl, rfl, fun t k n g _ => absurd g (Nat.not_lt_zero t)⟩) (Or.inl ⟨rfl, rfl⟩)) (fun r hr => ?_)
  obtain ⟨l2, w, g1, g2⟩ := hr
  rcases g1.fin (fun t k n g => g.1) with ⟨q1, q2⟩ | ⟨q1, q2, q3⟩
  · left
    rcases g2 with ⟨-, q⟩ | ⟨q, q4, -⟩
    · exact ⟨q, q2⟩
    · rw [q1] at q4
      cases q4
  · right
    rcases g2 with ⟨q, -⟩ | ⟨q, q4, q5⟩
    · rw [q1] at q
      cases q
    · rw [q1] at q4
      have e := Option.some.inj q4
      rw [← e] at q5
      exact ⟨q5, q2, q3⟩
end KNR
