section JK2
variable {Q : Int32 × Dt → Prop} {sh : Sh} {d d0 d' : Dt} {z : Nat} {ow : Nat → Nat} {R K : Nat → Int32} {N b p q : Nat} {T : Nat → Nat} {L : Nat → Nat} {M : Nat → Prop}
theorem jn1_lost (hW : WS R) (hN : WN R) (hj : jb R T p q) (y : Nat) (hy : lost R (jn1 R T) 0 y) : lost R T 0 y := by
  obtain ⟨n, ⟨c1, c2, c3, c4, c5⟩, -⟩ := id hj
  have hrk := rk_60 hW hN c5
  have e : jn1 R T = addL 2 T (wayL R q 60 p) := by
    unfold jn1
    rw [jnP_eq hj]
  rw [e] at hy
  have hm : ∀ v, rch R T 0 v → rch R (addL 2 T (wayL R q 60 p)) 0 v := fun v hv => rch_mono (fun s _ h => by have := addL_ge (n := 2) (wayL R q 60 p) T s; omega) hv
  have hin := way_in (T := addL 2 T (wayL R q 60 p)) (c0 := 0) hW hN 60 p hrk c2 (fun s hs => by have := addL_in (n := 2) (wayL R q 60 p) T s hs; omega) (hm p c1)
  obtain ⟨h1, s, h2, h3, h4⟩ := hy
  have hsn : ¬ s ∈ wayL R q 60 p := fun r => by
    have := hin.1 s r
    rcases h4 with h4 | h4
    · rw [h4] at this
      exact h1 this.1
    · rw [h4] at this
      exact h1 this.2
  rw [addL_out _ _ _ hsn] at h3
  exact ⟨fun r => h1 (hm y r), s, h2, h3, h4⟩
theorem lost_lt {y : Nat} (hW : WS R) (hN : WN R) (h : lost R T 0 y) : y < nn R 0 := by
  obtain ⟨_, s, h2, h3, h4⟩ := h
  obtain ⟨-, a2, -, b2, -⟩ := ws_e hW hN h2
  omega
theorem kx_loop {k13 : Nat → Int64 → Int64 → Int32 → Int32 → Int32 → Int32 → Dt → Option (Int32 × Dt)} {X : Nat} {rc ls : Int64} (hK : KS sh z) (hN : WN R) (hW : WS R) (hX : WX sh d z ow R L M) (hXn : X < 60) (hrc : ∀ v, bit rc v = true ↔ rch R T 0 v) (hls : ∀ v, bit ls v = true ↔ lost R T 0 v) (hM : ∀ y, lost R T 0 y → M y)
    (hk : ∀ l1 l2 l3, JB R T 1000000000 (fun x _ => x < X + 1) l1 l2 l3 → Rn (k13 (z + 221) rc ls l1 l2 l3 (nI (X + 1)) d) Q) : ∀ (m i fu : Nat) (l1 l2 l3 : Int32), i + m = 60 → m < fu → JB R T 1000000000 (fun x y => x < X ∨ (x = X ∧ y < i)) l1 l2 l3 → Rn (f_X5_join_23 N sh k13 fu (z + 221) rc ls l1 l2 l3 (nI X) (nI i) d) Q
  | 0, i, fu, l1, l2, l3, hi, hf, hJ => by
    obtain ⟨fu, rfl⟩ : ∃ q, fu = q + 1 := ⟨fu - 1, by omega⟩
    show Rn (g_X5_join_23 N sh k13 (f_X5_join_23 N sh k13 fu) (z + 221) rc ls l1 l2 l3 (nI X) (nI i) d) _
    have n0 := hN.1.2
    unfold g_X5_join_23 f_X5_join_95
    rw [nI_1]
    refine rn_t ((nI_leI (a := 60) (by omega) (by omega)).mpr (by omega)) ?_
    refine hk l1 l2 l3 (hJ.cg (fun x y n hc => ⟨fun r => by omega, fun r => ?_⟩))
    have := hc.2.2.2.1
    have r : x < X + 1 := r
    omega
  | m + 1, i, fu, l1, l2, l3, hi, hf, hJ => by
    obtain ⟨fu, rfl⟩ : ∃ q, fu = q + 1 := ⟨fu - 1, by omega⟩
    have ih := kx_loop hK hN hW hX hXn hrc hls hM hk m (i + 1) fu
    show Rn (g_X5_join_23 N sh k13 (f_X5_join_23 N sh k13 fu) (z + 221) rc ls l1 l2 l3 (nI X) (nI i) d) _
    have n0 := hN.1.2
    unfold g_X5_join_23 f_X5_join_95 f_X5_join_89
    rw [nI_1, nI_1]
    refine rn_f (nI_ge (b := 60) (by omega) (by decide)) ?_
    refine rn_ite (fun h1 => ?_) (fun h1 => ?_)
    · have h1 : ¬ rch R T 0 X := fun r => h1 ((bit_tst hXn).mpr ((hrc X).mpr r))
      refine hk l1 l2 l3 (hJ.cg (fun x y n hc => ⟨fun r => by omega, fun r => ?_⟩))
      have r : x < X + 1 := r
      by_cases e : x = X
      · rw [e] at hc
        exact absurd hc.1 h1
      · exact Or.inl (by omega)
    · have h1 : rch R T 0 X := (hrc X).mp ((bit_tst hXn).mp (Decidable.of_not_not h1))
      have nxt9 : ∀ l1 l2 l3, JB R T 1000000000 (fun x y => (x < X ∨ (x = X ∧ y < i)) ∨ (x = X ∧ y = i)) l1 l2 l3 → Rn (f_X5_join_23 N sh k13 fu (z + 221) rc ls l1 l2 l3 (nI X) (nI (i + 1)) d) Q := fun l1 l2 l3 h => ih l1 l2 l3 (by omega) (by omega) (h.cg (fun x y n _ => ⟨fun r => by omega, fun r => by omega⟩))
      refine rn_ite (fun h2 => ?_) (fun h2 => ?_)
      · have h2 : ¬ lost R T 0 i := fun r => h2 ((bit_tst (by omega)).mpr ((hls i).mpr r))
        exact nxt9 _ _ _ (hJ.skip (fun n9 hn9 => absurd hn9.2.2.1 h2))
      · have h2 : lost R T 0 i := (hls i).mp ((bit_tst (by omega)).mp (Decidable.of_not_not h2))
        have hin := lost_lt hW hN h2
        obtain ⟨x1, x2, x3, x4⟩ := id hX
        obtain ⟨y1, y2⟩ := x4 i (hM i h2)
        refine r_gP hK 221 5 1 77 rfl (by decide) ?_
        refine rn_eq (k_between hK x1 hXn (by omega)) ?_
        rcases y2 X hXn with ⟨n, r1, r2, r3⟩ | ⟨r1, r3⟩
        · rw [r3]
          have hc : X < nn R 0 → cand R T X i n := fun hx => ⟨h1, hx, h2, hin, r1⟩
          have hx : X < nn R 0 := by
            rcases Nat.lt_or_ge X (nn R 0) with q | q
            · exact q
            · obtain ⟨⟨p, hp, _⟩, _⟩ := r1
              cases p with
              | nil =>
                have e : X = i := hp
                omega
              | cons s p =>
                obtain ⟨c, q1, q2, -⟩ := hp
                have := (edge_lt hW hN q2 (by omega) (by omega)).1
                omega
          have hc := hc hx
          refine rn_ite (fun h3 => ?_) (fun h3 => ?_)
          · rcases hJ with ⟨j1, j2⟩ | ⟨p, q, n', j1, j2, j3, j4, j5, j6, j7⟩
            · rw [j1] at h3
              have := (nI_leI (by decide) (by omega)).mp h3
              omega
            · have hJ : JB R T 1000000000 (fun x y => x < X ∨ (x = X ∧ y < i)) l1 l2 l3 := Or.inr ⟨p, q, n', j1, j2, j3, j4, j5, j6, j7⟩
              rw [j3] at h3
              have h3 := (nI_leI (by omega) (by omega)).mp h3
              refine nxt9 _ _ _ (hJ.skip (fun n9 hn9 => ⟨p, q, n', j1, j2, j3, j4, j5, j6, j7, ?_⟩))
              have := dst_fun hc.2.2.2.2 hn9.2.2.2.2
              have j5 : p < X ∨ (p = X ∧ q < i) := j5
              omega
          · refine r_gP hK 221 5 1 77 rfl (by decide) ?_
            refine rn_eq (k_between hK x1 hXn (by omega)) ?_
            rw [r3]
            refine nxt9 _ _ _ (hJ.take hc r2 (fun p q n' e1 e2 _ _ e3 => Or.inl ?_))
            rw [e2] at h3
            exact Nat.lt_of_not_le (fun q => h3 ((nI_leI (by omega) (by omega)).mpr q))
        · rw [r3]
          have hsk := hJ.skip (x0 := X) (y0 := i) (fun n9 hn9 => by
            obtain ⟨⟨p, hp, _⟩, _⟩ := hn9.2.2.2.2
            exact absurd hp (r1 p))
          refine rn_t ?_ (nxt9 _ _ _ hsk)
          rcases hJ with ⟨j1, -⟩ | ⟨p, q, n', j1, j2, j3, j4, -⟩
          · rw [j1]
            exact (nI_leI (by decide) (by decide)).mpr (Nat.le_refl _)
          · rw [j3]
            exact (nI_leI (by omega) (by decide)).mpr (by omega)
theorem ky_loop {rc ls : Int64} (hN2 : 300 ≤ N) (hK : KS sh z) (hN : WN R) (hW : WS R) (hX : WX sh d z ow R L M) (hrc : ∀ v, bit rc v = true ↔ rch R T 0 v) (hls : ∀ v, bit ls v = true ↔ lost R T 0 v) (hM : ∀ y, lost R T 0 y → M y)
    (hk : ∀ l1 l2 l3, JB R T 1000000000 (fun _ _ => True) l1 l2 l3 → Rn (f_X5_join_101 N sh (z + 221) l1 l2 l3 d) Q) : ∀ (m i fu : Nat) (l1 l2 l3 : Int32), i + m = 60 → m < fu → JB R T 1000000000 (fun x _ => x < i) l1 l2 l3 → Rn (f_X5_join_13 N sh fu (z + 221) rc ls l1 l2 l3 (nI i) d) Q
  | 0, i, fu, l1, l2, l3, hi, hf, hJ => by
    obtain ⟨fu, rfl⟩ : ∃ q, fu = q + 1 := ⟨fu - 1, by omega⟩
    show Rn (g_X5_join_13 N sh (f_X5_join_13 N sh fu) (z + 221) rc ls l1 l2 l3 (nI i) d) _
    have n0 := hN.1.2
    unfold g_X5_join_13
    refine rn_t ((nI_leI (a := 60) (by omega) (by omega)).mpr (by omega)) ?_
    refine hk l1 l2 l3 (hJ.cg (fun x y n hc => ⟨fun _ => trivial, fun _ => ?_⟩))
    have := hc.2.1
    show x < i
    omega
  | m + 1, i, fu, l1, l2, l3, hi, hf, hJ => by
    obtain ⟨fu, rfl⟩ : ∃ q, fu = q + 1 := ⟨fu - 1, by omega⟩
    have ih := ky_loop hN2 hK hN hW hX hrc hls hM hk m (i + 1) fu
    show Rn (g_X5_join_13 N sh (f_X5_join_13 N sh fu) (z + 221) rc ls l1 l2 l3 (nI i) d) _
    unfold g_X5_join_13
    refine rn_f (nI_ge (b := 60) (by omega) (by decide)) ?_
    exact kx_loop hK hN hW hX (by omega) hrc hls hM (fun a1 a2 a3 h => ih a1 a2 a3 (by omega) (by omega) h) 60 0 N l1 l2 l3 (by omega) (by omega) (hJ.cg (fun x y n _ => ⟨fun r => Or.inl r, fun r => by omega⟩))
/-- the planner, with left = T -/
theorem PL.pf {T' : Nat → Nat} (h : PL d z R T) (hf : PF z d d') (hT : ∀ s, s < nn R 1 → d'.1 (z + 232) s = nI (T' s) ∧ T' s < 2 ^ 30) : PL d' z R T' := by
  refine ⟨?_, fun s hs => ⟨?_, ?_, hT s hs⟩⟩
  · rw [hf.2.1 (z + 221) (by omega) (by omega) (by omega)]
    exact h.1
  · rw [hf.2.1 (z + 230) (by omega) (by omega) (by omega)]
    exact (h.2 s hs).1
  · rw [hf.2.1 (z + 231) (by omega) (by omega) (by omega)]
    exact (h.2 s hs).2.1
theorem joinAll_loop (hN2 : 300 ≤ N) (hK : KS sh z) (hw : OWS ow z) (hN : WN R) (hW : WS R) (hX : WX sh d0 z ow R L M) : ∀ (k i fu : Nat) (d : Dt) (T : Nat → Nat), i + k = 60 → k < fu → (∀ s, s < nn R 1 → T s + 120 * k ≤ 8000) → PF z d0 d → PL d z R T → (∀ y, lost R T 0 y → M y) → Rn (f_X5_joinAll_2 N sh fu (z + 221) (nI i) d) (fun r => PF z d0 r.2 ∧ ((joinF R k T = none ∧ r.1 = 0) ∨ ∃ T', joinF R k T = some T' ∧ r.1 = 1 ∧ PL r.2 z R T'))
  | 0, i, fu, d, T, hi, hf, hB, hM, hP, hl => by
    obtain ⟨fu, rfl⟩ : ∃ q, fu = q + 1 := ⟨fu - 1, by omega⟩
    show Rn (g_X5_joinAll_2 N sh (f_X5_joinAll_2 N sh fu) (z + 221) (nI i) d) _
    unfold g_X5_joinAll_2
    refine rn_t ((nI_leI (a := 60) (by omega) (by omega)).mpr (by omega)) ?_
    exact rn_some ⟨hM, Or.inl ⟨rfl, rfl⟩⟩
  | k + 1, i, fu, d, T, hi, hf, hB, hM, hP, hl => by
    obtain ⟨fu, rfl⟩ : ∃ q, fu = q + 1 := ⟨fu - 1, by omega⟩
    have ih := joinAll_loop hN2 hK hw hN hW hX k (i + 1) fu
    show Rn (g_X5_joinAll_2 N sh (f_X5_joinAll_2 N sh fu) (z + 221) (nI i) d) _
    unfold g_X5_joinAll_2
    refine rn_f (nI_ge (b := 60) (by omega) (by decide)) ?_
    refine rn_bind (k_look hN2 hK hN hW hP) (fun r hr => ?_)
    obtain ⟨n1, l1, l2⟩ := hr
    refine rn_bind (k_reached (c := 0) (T := T) hN2 hK hN hW (by decide) l1) (fun rc hrc => ?_)
    have hM1 := hM.tr n1.pf
    have hX1 := hX.pf hN hK hw hM1
    have hP1 : PL r.2 z R T := hP.pf n1.pf (fun s hs => by rw [n1.1]; exact ⟨(hP.2 s hs).2.2.1, (hP.2 s hs).2.2.2⟩)
    have hls : ∀ v, bit (r.1 &&& (rc ^^^ (-1))) v = true ↔ lost R T 0 v := fun v => by
      rw [bit_and, Bool.and_eq_true, l2 v]
      unfold lost
      refine ⟨fun q => ⟨fun r9 => ?_, q.1⟩, fun q => ⟨q.2, ?_⟩⟩
      · have := q.2
        rw [bit_not (bit_big ((l2 v).mpr q.1)), (hrc v).mpr r9] at this
        cases this
      · rw [bit_not (bit_big ((l2 v).mpr q.2)), bool_f (fun r9 => q.1 ((hrc v).mp r9))]
        rfl
    have hcn : (r.1 &&& (rc ^^^ (-1))) = 0 ↔ conn R T 0 := by
      refine ⟨fun q s hs hp => ?_, fun q => ?_⟩
      · by_cases r9 : rch R T 0 (eA R s)
        · exact r9
        · have := (hls (eA R s)).mpr ⟨r9, s, hs, hp, Or.inl rfl⟩
          rw [q, bit_0] at this
          cases this
      · by_cases h0 : (r.1 &&& (rc ^^^ (-1))) = 0
        · exact h0
        · obtain ⟨v, _, v1, _⟩ := bit_ex h0
          obtain ⟨w1, s, w2, w3, w4⟩ := (hls v).mp v1
          have r9 := q s w2 w3
          rcases w4 with w4 | w4
          · rw [w4] at r9
            exact absurd r9 w1
          · exact absurd (rch_step r9 ⟨s, w2, w3, Or.inl ⟨rfl, w4⟩⟩) w1
    unfold joinF
    by_cases hc : conn R T 0
    · refine rn_f (fun q => q (cmp0.mpr (hcn.mpr hc))) ?_
      rw [ite_p hc]
      exact rn_some ⟨hM1, Or.inr ⟨T, rfl, rfl, hP1⟩⟩
    · refine rn_t (fun q => hc (hcn.mp (cmp0.mp q))) ?_
      rw [ite_n hc]
      refine rn_bind (P := fun r9 => PF z d0 r9.2 ∧ ((¬ (∃ p q, jb R T p q) ∧ r9.1 = 0) ∨ ∃ p q, jb R T p q ∧ r9.1 = 1 ∧ PL r9.2 z R (jn1 R T))) ?_ (fun r9 h9 => ?_)
      · unfold f_X5_join
        refine rn_t (ks_o hK 221 5 rfl) ?_
        refine ky_loop hN2 hK hN hW hX1 hrc hls hl (fun a1 a2 a3 hJ => ?_) 60 0 N (-1) (-1) (nI 1000000000) (by omega) (by omega) (Or.inl ⟨rfl, fun x y n h => absurd h (Nat.not_lt_zero x)⟩)
        unfold f_X5_join_101
        rcases hJ with ⟨j1, j2⟩ | ⟨p, q, n, j1, j2, j3, j4, -, j6, j7⟩
        · rw [j1]
          refine rn_f (by decide) ?_
          exact rn_some ⟨hM1, Or.inl ⟨fun ⟨p, q, n, h, _⟩ => j2 p q n trivial h, rfl⟩⟩
        · have hjb : jb R T p q := ⟨n, j6, fun x y n' hc' => j7 x y n' trivial hc'⟩
          rw [j1, j2, j3]
          refine rn_t (nI_lt (b := 1000000000) (by omega) (by decide)) ?_
          obtain ⟨b1, b2, b3, b4, b5⟩ := jn1_props hW hN hjb
          have ej : jn1 R T = addL 2 T (wayL R q 60 p) := by
            unfold jn1
            rw [jnP_eq hjb]
          refine rn_bind (k_addWay (n9 := 2) hN2 hK hw hN hW hX1 (hl q j6.2.2.1) j6.2.1 j6.2.2.2.2 (fun s hs => (hP1.2 s hs).2.2.1)) (fun d2 hd2 => ?_)
          refine rn_some ⟨hM1.tr hd2.1, Or.inr ⟨p, q, hjb, rfl, hP1.pf hd2.1 (fun s hs => ⟨?_, ?_⟩)⟩⟩
          · rw [ej]
            exact hd2.2.1 s hs
          · have := hB s hs
            have := b2 s
            omega
      · obtain ⟨m9, q9⟩ := h9
        rcases q9 with ⟨q1, q2⟩ | ⟨p, q, q1, q2, q3⟩
        · refine rn_f (fun r9 => r9 q2) ?_
          rw [ite_n q1]
          exact rn_some ⟨m9, Or.inl ⟨rfl, rfl⟩⟩
        · refine rn_t (by rw [q2]; decide) ?_
          rw [ite_p (show ∃ p q, jb R T p q from ⟨p, q, q1⟩)]
          obtain ⟨b1, b2, b3, b4, b5⟩ := jn1_props hW hN q1
          refine r_gP hK 221 5 4 228 rfl (by decide) ?_
          refine rn_eq (q_aT (ks_a hK 228 0 7 rfl) 3 rfl (by decide) (by decide)) ?_
          refine rn_eq (q_sI (ks_a hK 228 0 7 rfl) 3 rfl (by decide) (by decide)) ?_
          rw [nI_1]
          have pf2 : PF z r9.2 (wI r9.2 (z + 228) 3 (r9.2.1 (z + 228) 3 + 1)) := PF.w (Or.inl rfl)
          refine ih _ (jn1 R T) (by omega) (by omega) (fun s hs => ?_) (m9.tr pf2) (q3.pf pf2 (fun s hs => ?_)) (fun y hy => hl y (jn1_lost hW hN q1 y hy))
          · have := hB s hs
            have := b2 s
            omega
          · rw [wI_n (by omega)]
            exact ⟨(q3.2 s hs).2.2.1, (q3.2 s hs).2.2.2⟩
theorem k_joinAll (hN2 : 300 ≤ N) (hK : KS sh z) (hw : OWS ow z) (hN : WN R) (hW : WS R) (hX : WX sh d z ow R L M) (hB : ∀ s, s < nn R 1 → T s ≤ 2) (hP : PL d z R T) (hl : ∀ y, lost R T 0 y → M y) : Rn (f_X5_joinAll N sh (z + 221) d) (fun r => PF z d r.2 ∧ ((joinF R 60 T = none ∧ r.1 = 0) ∨ ∃ T', joinF R 60 T = some T' ∧ r.1 = 1 ∧ PL r.2 z R T')) := by
  unfold f_X5_joinAll
  refine rn_t (ks_o hK 221 5 rfl) ?_
  exact joinAll_loop (d0 := d) hN2 hK hw hN hW hX 60 0 N d T (by omega) (by omega) (fun s hs => by have := hB s hs; omega) PF.rf hP hl
end JK2
