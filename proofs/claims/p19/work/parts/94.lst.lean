section LK
variable {s : AS} {sh : Sh} {d d0 d' : Dt} {z : Nat} {ow : Nat → Nat} {R K : Nat → Int32} {u : Bool} {y : YL} {N cc b : Nat} {L : Nat → Nat}
theorem how_loop (hK : KS sh z) (hN : WN R) (hW : WS R) (hT : TB sh d z ow 4 9 (nn R 1) (vS R) L) : ∀ (m i fu : Nat), i + m = nn R 1 → m < fu → (∀ s, s < i → R (16 + 9 * s + 4) = 0 → R (16 + 9 * s + 5) = 0) → Rn (f_X1_hasOneWay_2 N sh d fu (z + 3) (nI i)) (fun r => (r = 0 ∧ BW R) ∨ (r = 1 ∧ ¬ BW R))
  | 0, i, fu, hi, hf, hv => by
    obtain ⟨fu, rfl⟩ : ∃ q, fu = q + 1 := ⟨fu - 1, by omega⟩
    show Rn (g_X1_hasOneWay_2 N sh (f_X1_hasOneWay_2 N sh d fu) (z + 3) (nI i) d) _
    have n1 := hN.2.1.2
    unfold g_X1_hasOneWay_2
    refine r_gP hK 3 1 1 4 rfl (by decide) ?_
    refine r_gI hK (i := 4) (c := 8) rfl ?_
    rw [hT.1]
    refine rn_t ((nI_leI (by omega) (by omega)).mpr (by omega)) ?_
    have e : i = nn R 1 := by omega
    subst e
    exact ⟨0, rfl, Or.inl ⟨rfl, hv⟩⟩
  | m + 1, i, fu, hi, hf, hv => by
    obtain ⟨fu, rfl⟩ : ∃ q, fu = q + 1 := ⟨fu - 1, by omega⟩
    have ih := how_loop hK hN hW hT m (i + 1) fu (by omega) (by omega)
    show Rn (g_X1_hasOneWay_2 N sh (f_X1_hasOneWay_2 N sh d fu) (z + 3) (nI i) d) _
    have n1 := hN.2.1.2
    have his : i < nn R 1 := by omega
    obtain ⟨-, -, e5, e4, -⟩ := hW i his
    unfold g_X1_hasOneWay_2 f_X1_hasOneWay_40
    refine r_gP hK 3 1 1 4 rfl (by decide) ?_
    refine r_gI hK (i := 4) (c := 8) rfl ?_
    rw [hT.1, nI_1]
    refine rn_f (nI_ge his (by omega)) ?_
    have skip : (R (16 + 9 * i + 4) = 0 → R (16 + 9 * i + 5) = 0) → ∀ s, s < i + 1 → R (16 + 9 * s + 4) = 0 → R (16 + 9 * s + 5) = 0 := fun h9 s hs ho => by
      by_cases e : s = i
      · rw [e] at ho ⊢
        exact h9 ho
      · exact hv s (by omega) ho
    refine r_gP hK 3 1 1 4 rfl (by decide) ?_
    refine rn_eq (tb_get (o := 4) (nc := 9) (c := 4) hK (by decide) hT rfl his rfl (by decide)) ?_
    have v4 : vS R 4 i = R (16 + 9 * i + 4) := rfl
    have v5 : vS R 5 i = R (16 + 9 * i + 5) := rfl
    rw [v4]
    rcases e4 with e4 | e4
    · refine rn_f (fun q => q e4) ?_
      refine r_gP hK 3 1 1 4 rfl (by decide) ?_
      refine rn_eq (tb_get (o := 4) (nc := 9) (c := 5) hK (by decide) hT rfl his rfl (by decide)) ?_
      rw [v5]
      rcases e5 with e5 | e5
      · refine rn_t (by rw [e5]; decide) ?_
        exact ih (skip (fun _ => e5))
      · refine rn_f (fun q => q e5) ?_
        refine ⟨1, rfl, Or.inr ⟨rfl, fun hb => ?_⟩⟩
        have := hb i his e4
        rw [e5] at this
        exact absurd this (by decide)
    · refine rn_t (by rw [e4]; decide) ?_
      exact ih (skip (fun r => by rw [e4] at r; exact absurd r (by decide)))
theorem k_hasOneWay (hN2 : 200 ≤ N) (hK : KS sh z) (hN : WN R) (hW : WS R) (hT : TB sh d z ow 4 9 (nn R 1) (vS R) L) : Rn (f_X1_hasOneWay N sh (z + 3) d) (fun r => (r = 0 ∧ BW R) ∨ (r = 1 ∧ ¬ BW R)) := by
  have n1 := hN.2.1.2
  unfold f_X1_hasOneWay
  refine rn_t (ks_o hK 3 1 rfl) ?_
  exact how_loop hK hN hW hT (nn R 1) 0 N (by omega) (by omega) (fun s hs => absurd hs (Nat.not_lt_zero s))
theorem inO_dg (hW : WS R) (hN : WN R) (h : inO R b) : b < nn R 0 ∧ dgT R (T0 R) b (nn R 1) % 2 = 1 := by
  obtain ⟨i, hi, rfl⟩ := h
  have hm : oC R i ∈ oddl R := by
    show (oddl R).getD i 0 ∈ oddl R
    rw [List.getD_eq_getElem?_getD, List.getElem?_eq_getElem hi]
    exact List.getElem_mem hi
  rw [oddl_eq hW hN] at hm
  unfold oddP at hm
  rw [List.mem_filter, List.mem_range] at hm
  exact ⟨hm.1, of_decide_eq_true hm.2⟩
/-- behind measureEach(oddBits()): the WAYS to the odd CROSSINGS stand -/
theorem go_each {x : Int64} (hW : WS R) (hN : WN R) (hx : ∀ v, bit x v = decide (dgT R (T0 R) v (nn R 1) % 2 = 1)) (h : EAQ z R x d d') : GO d' z R := fun b hb a ha => by
  obtain ⟨q1, q2⟩ := inO_dg hW hN hb
  have n0 := hN.1.2
  exact h.2.2.2.1 b (by omega) (h.2.2.2.2 b (by rw [hx b]; exact decide_eq_true q2)) a ha
theorem ko_lg2 {r : Int32 × Dt} {s1 : AS} {v : Int32} (h : CI s1 z ow R K u y cc) (hf : RFR z s s1) (hr : r.1 = v ∧ LG z s1.2 r.2) : KO z R K u cc (r.1, none) s (r.1, (s1.1, r.2)) := by
  have q := ci_lg (s := s1) h hr.2
  exact ⟨rfl, hf.tr q.2, ow, y, q.1⟩
/-- LEAST of a set, behind fillTable() -/
theorem k_leastOf {B : Nat} (h : CI s z ow R K u y cc) (ht : TabOK s.2 z R) (hB : B < 2 ^ (oddl R).length) : Rn (f_X4_leastOf N s.1 (z + 201) (nI B) s.2) (fun r => r = nI (min (LSx R B) 1000000000) ∨ r = 1000000000) := by
  have hK := h.1
  obtain ⟨-, -, ⟨a, t1, t2, t3, t4, t5, t6⟩, -⟩ := id h.2.2.2.2.1
  obtain ⟨m1, -, a', t7, t8⟩ := ht
  have hp14 : 2 ^ (oddl R).length ≤ 2 ^ 14 := Nat.pow_le_pow_right (by decide) m1
  have e : a' = a := by
    rw [t7] at t1
    exact Option.some.inj t1
  subst e
  unfold f_X4_leastOf
  refine rn_t (ks_o hK 201 4 rfl) ?_
  refine rn_f (nI_pos (by omega)) ?_
  refine r_gQ hK a' t1 rfl ?_
  refine rn_eq (q_len ⟨t3, t4⟩ (by decide)) ?_
  refine rn_ite (fun _ => ⟨_, rfl, Or.inr rfl⟩) (fun q => ?_)
  have q : B < y.2.2.2.1 := Nat.lt_of_not_le (fun r => q ((nI_leI (by omega) (by omega)).mpr r))
  refine r_gQ hK a' t1 rfl ?_
  refine rn_eq (q_aT ⟨t3, t4⟩ B rfl q (by omega)) ?_
  exact ⟨_, rfl, Or.inl (t8 B hB)⟩
theorem k_least {x : Int32} (hN2 : 20000 ≤ N) (h : CI s z ow R K u y cc) (hR : WF R) : Rn (f_X11_least N z x s) (fun r => KO z R K u cc (r.1, none) s r) := by
  have hK := h.1
  have n0 := hR.1.1.2
  have hol := oddl_len hR.2.2.1 hR.1
  unfold f_X11_least
  refine rn_t (ks_o hK 0 11 rfl) ?_
  refine r_gP hK 0 11 4 201 rfl (by decide) ?_
  refine rn_bind (k_list (by omega) hK hR.1 hR.2.2.1 h.2.2.1.2.1 h.2.2.2.2.2.2.2.2.1) (fun r hr => ?_)
  obtain ⟨l1, l2, l3, l4, l5⟩ := hr
  have ht : PRt r.2 z R := prt_lf h l1
  have q := ci_pr h (l1.fd h.2.1) (by rw [l1.1]) (Or.inr ⟨l3, l4, l5⟩) ht (l1.2.2 7 (by decide) (by decide))
  have bad : Rn (f_X11_least_35 N z (s.1, r.2)) (fun r => KO z R K u cc (r.1, none) s r) := by
    unfold f_X11_least_35
    refine rn_bind (k_refuse hK) (fun r2 hr2 => rn_some ?_)
    exact ko_lg2 (s1 := (s.1, r.2)) q.1 q.2 hr2
  rw [l2]
  refine rn_ite (fun _ => bad) (fun q1 => ?_)
  have hm14 : (oddl R).length ≤ 14 := Nat.le_of_not_lt (fun r => q1 (nI_lt (a := 14) r (by omega)))
  have hp14 : 2 ^ (oddl R).length ≤ 2 ^ 14 := Nat.pow_le_pow_right (by decide) hm14
  refine r_gP hK 0 11 1 3 rfl (by decide) ?_
  refine rn_bind (k_hasOneWay (by omega) hK hR.1 hR.2.2.1 q.1.2.2.1.2.1) (fun v _ => ?_)
  refine rn_ite (fun _ => bad) (fun _ => ?_)
  refine rn_ite (fun _ => bad) (fun q2 => ?_)
  rw [sb_pow (by omega)]
  refine rn_ite (fun q3 => ?_) (fun _ => bad)
  obtain ⟨B, hB, rfl, -⟩ := st_of (n := 2 ^ (oddl R).length) (by omega) (fun r => r.elim q2 (fun r => Int32.not_le.mpr q3 r))
  refine r_gP hK 0 11 3 77 rfl (by decide) ?_
  refine r_gP hK 0 11 4 201 rfl (by decide) ?_
  refine rn_bind (k_oddBits (by omega) hK hR.1 hR.2.2.1 q.1.2.2.1.2.1) (fun w hw => ?_)
  refine rn_bind (ci_each (s := (s.1, r.2)) (goals := w) (by omega) q.1 hR (ob_lt hR.2.2.1 hR.1 hw)) (fun d1 hd => ?_)
  obtain ⟨c1, f1, e1⟩ := hd
  refine r_gP hK 0 11 4 201 rfl (by decide) ?_
  have r1 : ∀ i, 200 < i → d1.1 (z + i) = r.2.1 (z + i) := fun i hi => (e1.1.2 (z + i) (by omega)).1
  refine rn_bind (k_fillTable (s := (s.1, d1)) hN2 c1 hR (by show d1.1 (z + 201) 4 = 1; rw [r1 201 (by decide)]; exact l3) (by show d1.1 (z + 201) 3 = _; rw [r1 201 (by decide)]; exact l4) (fun k hk => by show d1.1 (z + 202) k = _; rw [r1 202 (by decide)]; exact l5 k hk) hm14 (go_each hR.2.2.1 hR.1 hw e1)) (fun s2 hs2 => ?_)
  obtain ⟨ow2, Lt2, -, c2, f2, t1, t2, -, -⟩ := hs2
  have hK2 := c2.1
  have f3 : RFR z s s2 := (q.2.tr f1).tr f2
  unfold f_X11_least_63 f_X11_least_92
  refine r_gP hK2 0 11 4 201 rfl (by decide) ?_
  refine rn_bind (k_leastOf c2 t2.1 hB) (fun v2 _ => ?_)
  refine rn_ite (fun _ => ?_) (fun _ => ?_)
  · refine rn_bind (k_answer hK2) (fun r2 hr2 => rn_some ?_)
    exact ko_lg2 c2 f3 hr2
  · refine rn_bind (k_refuse hK2) (fun r2 hr2 => rn_some ?_)
    exact ko_lg2 c2 f3 hr2
end LK
