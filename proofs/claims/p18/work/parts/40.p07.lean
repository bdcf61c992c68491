/-! 94.lst.lean.txt -/
section LK
variable {s : AS} {sh : Sh} {d d0 d' : Dt} {z : Nat} {ow : Nat → Nat} {R K : Nat → Int32} {u : Bool} {y : YL} {N cc b : Nat} {L : Nat → Nat}
theorem how_loop (hK : KS sh z) (hN : WN R) (hW : WS R) (hT : TB sh d z ow 4 9 (nn R 1) (vS R) L) : ∀ (m i fu : Nat), i + m = nn R 1 → m < fu → (∀ s, s < i → R (16 + 9 * s + 4) = 0 → R (16 + 9 * s + 5) = 0) → Rn (f_X1_hasOneWay_2 N sh d fu (z + 3) (nI i)) (fun r => (r = 0 ∧ BW R) ∨ (r = 1 ∧ ¬ BW R))
  | 0, i, fu, hi, hf, hv => by
    obtain ⟨fu, rfl⟩ : ∃ q, fu = q + 1 := ⟨fu - 1, by omega⟩
    show Rn (g_X1_hasOneWay_2 N sh (f_X1_hasOneWay_2 N sh d fu) (z + 3) (nI i) d) _
    have n1 := hN.2.1.2
    unfold g_X1_hasOneWay_2
    refine r_gP hK 3 1 1 4 rfl (by decide) ?_
    refine r_gI hK (i := 4) (c := 8) rfl ?_
    rw [hT.1]
    refine rn_t ((nI_leI (by omega) (by omega)).mpr (by omega)) ?_
    have e : i = nn R 1 := by omega
    subst e
    exact ⟨0, rfl, Or.inl ⟨rfl, hv⟩⟩
  | m + 1, i, fu, hi, hf, hv => by
    obtain ⟨fu, rfl⟩ : ∃ q, fu = q + 1 := ⟨fu - 1, by omega⟩
    have ih := how_loop hK hN hW hT m (i + 1) fu (by omega) (by omega)
    show Rn (g_X1_hasOneWay_2 N sh (f_X1_hasOneWay_2 N sh d fu) (z + 3) (nI i) d) _
    have n1 := hN.2.1.2
    have his : i < nn R 1 := by omega
    obtain ⟨-, -, e5, e4, -⟩ := hW i his
    unfold g_X1_hasOneWay_2 f_X1_hasOneWay_40
    refine r_gP hK 3 1 1 4 rfl (by decide) ?_
    refine r_gI hK (i := 4) (c := 8) rfl ?_
    rw [hT.1, nI_1]
    refine rn_f (nI_ge his (by omega)) ?_
    have skip : (R (16 + 9 * i + 4) = 0 → R (16 + 9 * i + 5) = 0) → ∀ s, s < i + 1 → R (16 + 9 * s + 4) = 0 → R (16 + 9 * s + 5) = 0 := fun h9 s hs ho => by
      by_cases e : s = i
      · rw [e] at ho ⊢
        exact h9 ho
      · exact hv s (by omega) ho
    refine r_gP hK 3 1 1 4 rfl (by decide) ?_
    refine rn_eq (tb_get (o := 4) (nc := 9) (c := 4) hK (by decide) hT rfl his rfl (by decide)) ?_
    have v4 : vS R 4 i = R (16 + 9 * i + 4) := rfl
    have v5 : vS R 5 i = R (16 + 9 * i + 5) := rfl
    rw [v4]
    rcases e4 with e4 | e4
    · refine rn_f (fun q => q e4) ?_
      refine r_gP hK 3 1 1 4 rfl (by decide) ?_
      refine rn_eq (tb_get (o := 4) (nc := 9) (c := 5) hK (by decide) hT rfl his rfl (by decide)) ?_
      rw [v5]
      rcases e5 with e5 | e5
      · refine rn_t (by rw [e5]; decide) ?_
        exact ih (skip (fun _ => e5))
      · refine rn_f (fun q => q e5) ?_
        refine ⟨1, rfl, Or.inr ⟨rfl, fun hb => ?_⟩⟩
        have := hb i his e4
        rw [e5] at this
        exact absurd this (by decide)
    · refine rn_t (by rw [e4]; decide) ?_
      exact ih (skip (fun r => by rw [e4] at r; exact absurd r (by decide)))
theorem k_hasOneWay (hN2 : 200 ≤ N) (hK : KS sh z) (hN : WN R) (hW : WS R) (hT : TB sh d z ow 4 9 (nn R 1) (vS R) L) : Rn (f_X1_hasOneWay N sh (z + 3) d) (fun r => (r = 0 ∧ BW R) ∨ (r = 1 ∧ ¬ BW R)) := by
  have n1 := hN.2.1.2
  unfold f_X1_hasOneWay
  refine rn_t (ks_o hK 3 1 rfl) ?_
  exact how_loop hK hN hW hT (nn R 1) 0 N (by omega) (by omega) (fun s hs => absurd hs (Nat.not_lt_zero s))
theorem inO_dg (hW : WS R) (hN : WN R) (h : inO R b) : b < nn R 0 ∧ dgT R (T0 R) b (nn R 1) % 2 = 1 := by
  obtain ⟨i, hi, rfl⟩ := h
  have hm : oC R i ∈ oddl R := by
    show (oddl R).getD i 0 ∈ oddl R
    rw [List.getD_eq_getElem?_getD, List.getElem?_eq_getElem hi]
    exact List.getElem_mem hi
  rw [oddl_eq hW hN] at hm
  unfold oddP at hm
  rw [List.mem_filter, List.mem_range] at hm
  exact ⟨hm.1, of_decide_eq_true hm.2⟩
/-- behind measureEach(oddBits()): the WAYS to the odd CROSSINGS stand -/
theorem go_each {x : Int64} (hW : WS R) (hN : WN R) (hx : ∀ v, bit x v = decide (dgT R (T0 R) v (nn R 1) % 2 = 1)) (h : EAQ z R x d d') : GO d' z R := fun b hb a ha => by
  obtain ⟨q1, q2⟩ := inO_dg hW hN hb
  have n0 := hN.1.2
  exact h.2.2.2.1 b (by omega) (h.2.2.2.2 b (by rw [hx b]; exact decide_eq_true q2)) a ha
theorem ko_lg2 {r : Int32 × Dt} {s1 : AS} {v : Int32} (h : CI s1 z ow R K u y cc) (hf : RFR z s s1) (hr : r.1 = v ∧ LG z s1.2 r.2) : KO z R K u cc (r.1, none) s (r.1, (s1.1, r.2)) := by
  have q := ci_lg (s := s1) h hr.2
  exact ⟨rfl, hf.tr q.2, ow, y, q.1⟩
/-- LEAST of a set, behind fillTable() -/
theorem k_leastOf {B : Nat} (h : CI s z ow R K u y cc) (ht : TabOK s.2 z R) (hB : B < 2 ^ (oddl R).length) : Rn (f_X4_leastOf N s.1 (z + 201) (nI B) s.2) (fun r => r = nI (min (LSx R B) 1000000000) ∨ r = 1000000000) := by
  have hK := h.1
  obtain ⟨-, -, ⟨a, t1, t2, t3, t4, t5, t6⟩, -⟩ := id h.2.2.2.2.1
  obtain ⟨m1, -, a', t7, t8⟩ := ht
  have hp14 : 2 ^ (oddl R).length ≤ 2 ^ 14 := Nat.pow_le_pow_right (by decide) m1
  have e : a' = a := by
    rw [t7] at t1
    exact Option.some.inj t1
  subst e
  unfold f_X4_leastOf
  refine rn_t (ks_o hK 201 4 rfl) ?_
  refine rn_f (nI_pos (by omega)) ?_
  refine r_gQ hK a' t1 rfl ?_
  refine rn_eq (q_len ⟨t3, t4⟩ (by decide)) ?_
  refine rn_ite (fun _ => ⟨_, rfl, Or.inr rfl⟩) (fun q => ?_)
  have q : B < y.2.2.2.1 := Nat.lt_of_not_le (fun r => q ((nI_leI (by omega) (by omega)).mpr r))
  refine r_gQ hK a' t1 rfl ?_
  refine rn_eq (q_aT ⟨t3, t4⟩ B rfl q (by omega)) ?_
  exact ⟨_, rfl, Or.inl (t8 B hB)⟩
theorem k_least {x : Int32} (hN2 : 20000 ≤ N) (h : CI s z ow R K u y cc) (hR : WF R) : Rn (f_X11_least N z x s) (fun r => KO z R K u cc (r.1, none) s r) := by
  have hK := h.1
  have n0 := hR.1.1.2
  have hol := oddl_len hR.2.2.1 hR.1
  unfold f_X11_least
  refine rn_t (ks_o hK 0 11 rfl) ?_
  refine r_gP hK 0 11 4 201 rfl (by decide) ?_
  refine rn_bind (k_list (by omega) hK hR.1 hR.2.2.1 h.2.2.1.2.1 h.2.2.2.2.2.2.2.2.1) (fun r hr => ?_)
  obtain ⟨l1, l2, l3, l4, l5⟩ := hr
  have ht : PRt r.2 z R := prt_lf h l1
  have q := ci_pr h (l1.fd h.2.1) (by rw [l1.1]) (Or.inr ⟨l3, l4, l5⟩) ht (l1.2.2 7 (by decide) (by decide))
  have bad : Rn (f_X11_least_35 N z (s.1, r.2)) (fun r => KO z R K u cc (r.1, none) s r) := by
    unfold f_X11_least_35
    refine rn_bind (k_refuse hK) (fun r2 hr2 => rn_some ?_)
    exact ko_lg2 (s1 := (s.1, r.2)) q.1 q.2 hr2
  rw [l2]
  refine rn_ite (fun _ => bad) (fun q1 => ?_)
  have hm14 : (oddl R).length ≤ 14 := Nat.le_of_not_lt (fun r => q1 (nI_lt (a := 14) r (by omega)))
  have hp14 : 2 ^ (oddl R).length ≤ 2 ^ 14 := Nat.pow_le_pow_right (by decide) hm14
  refine r_gP hK 0 11 1 3 rfl (by decide) ?_
  refine rn_bind (k_hasOneWay (by omega) hK hR.1 hR.2.2.1 q.1.2.2.1.2.1) (fun v _ => ?_)
  refine rn_ite (fun _ => bad) (fun _ => ?_)
  refine rn_ite (fun _ => bad) (fun q2 => ?_)
  rw [sb_pow (by omega)]
  refine rn_ite (fun q3 => ?_) (fun _ => bad)
  obtain ⟨B, hB, rfl, -⟩ := st_of (n := 2 ^ (oddl R).length) (by omega) (fun r => r.elim q2 (fun r => Int32.not_le.mpr q3 r))
  refine r_gP hK 0 11 3 77 rfl (by decide) ?_
  refine r_gP hK 0 11 4 201 rfl (by decide) ?_
  refine rn_bind (k_oddBits (by omega) hK hR.1 hR.2.2.1 q.1.2.2.1.2.1) (fun w hw => ?_)
  refine rn_bind (ci_each (s := (s.1, r.2)) (goals := w) (by omega) q.1 hR (ob_lt hR.2.2.1 hR.1 hw)) (fun d1 hd => ?_)
  obtain ⟨c1, f1, e1⟩ := hd
  refine r_gP hK 0 11 4 201 rfl (by decide) ?_
  have r1 : ∀ i, 200 < i → d1.1 (z + i) = r.2.1 (z + i) := fun i hi => (e1.1.2 (z + i) (by omega)).1
  refine rn_bind (k_fillTable (s := (s.1, d1)) hN2 c1 hR (by show d1.1 (z + 201) 4 = 1; rw [r1 201 (by decide)]; exact l3) (by show d1.1 (z + 201) 3 = _; rw [r1 201 (by decide)]; exact l4) (fun k hk => by show d1.1 (z + 202) k = _; rw [r1 202 (by decide)]; exact l5 k hk) hm14 (go_each hR.2.2.1 hR.1 hw e1)) (fun s2 hs2 => ?_)
  obtain ⟨ow2, Lt2, -, c2, f2, t1, t2, -, -⟩ := hs2
  have hK2 := c2.1
  have f3 : RFR z s s2 := (q.2.tr f1).tr f2
  unfold f_X11_least_63 f_X11_least_92
  refine r_gP hK2 0 11 4 201 rfl (by decide) ?_
  refine rn_bind (k_leastOf c2 t2.1 hB) (fun v2 _ => ?_)
  refine rn_ite (fun _ => ?_) (fun _ => ?_)
  · refine rn_bind (k_answer hK2) (fun r2 hr2 => rn_some ?_)
    exact ko_lg2 c2 f3 hr2
  · refine rn_bind (k_refuse hK2) (fun r2 hr2 => rn_some ?_)
    exact ko_lg2 c2 f3 hr2
end LK
/-! 95.readers.lean.txt -/
/-! at length partner part: they read, and answer -/
section RD
variable {s : AS} {sh : Sh} {d d0 d' : Dt} {z : Nat} {ow : Nat → Nat} {R K : Nat → Int32} {u : Bool} {y : YL} {N cc : Nat}
theorem kr_refuses {v : Int32} (h : CI s z ow R K u y cc) : Rn ((f_X11_refuse N s.1 z v s.2).bind fun r => some (r.1, r.2)) (KR z R K u cc s) := by
  refine rn_bind (k_refuse h.1) (fun r hr => rn_some ?_)
  exact kr_lg (d1 := s.2) h RFR.rf hr
theorem kr_says {v : Int32} (h : CI s z ow R K u y cc) : Rn ((f_X11_answer N s.1 z v s.2).bind fun r => some (r.1, r.2)) (KR z R K u cc s) := by
  refine rn_bind (k_answer h.1) (fun r hr => rn_some ?_)
  exact kr_lg (d1 := s.2) h RFR.rf hr
theorem k_at {x x2 : Int32} (h : CI s z ow R K u y cc) (hR : WF R) : Rn (f_X11_at N s.1 z x x2 s.2) (KR z R K u cc s) := by
  have hK := h.1
  have n4 := hR.1.2.2.2.2.2
  have hT := h.2.2.1.2.2.2.2.1
  unfold f_X11_at f_X11_at_9 f_X11_at_47
  refine rn_t (ks_o hK 0 11 rfl) ?_
  refine rn_ite (fun _ => kr_refuses h) (fun q1 => ?_)
  refine rn_ite (fun q2 => ?_) (fun _ => kr_refuses h)
  obtain ⟨c, hc, rfl, -⟩ := st_of (x := x2) (n := 4) (by omega) (fun r => r.elim q1 (show ¬ (nI 4 ≤ x2) from Int32.not_le.mpr q2))
  refine r_gP hK 0 11 1 3 rfl (by decide) ?_
  refine r_gP hK 3 1 4 31 rfl (by decide) ?_
  refine rn_eq (tb_has (o := 31) (nc := 4) hK (by decide) hT) ?_
  refine rn_ite (fun _ => kr_says h) (fun q3 => ?_)
  obtain ⟨i, hi, rfl, -⟩ := st_of (by omega) (fun q => q3 (ite01.mpr q))
  refine r_gP hK 0 11 1 3 rfl (by decide) ?_
  refine r_gP hK 3 1 4 31 rfl (by decide) ?_
  refine rn_eq (tb_get (o := 31) (nc := 4) (c := c) hK (by decide) hT rfl hi rfl hc) ?_
  exact kr_says h
theorem k_length {x : Int32} (h : CI s z ow R K u y cc) : Rn (f_X11_length N s.1 z x s.2) (KR z R K u cc s) := by
  have hK := h.1
  unfold f_X11_length f_X11_length_10
  refine rn_t (ks_o hK 0 11 rfl) ?_
  refine rn_ite (fun _ => kr_refuses h) (fun q1 => ?_)
  refine rn_ite (fun q2 => ?_) (fun _ => kr_refuses h)
  obtain ⟨c, hc, rfl, -⟩ := st_of (x := x) (n := 7) (by omega) (fun r => r.elim q1 (show ¬ (nI 7 ≤ x) from Int32.not_le.mpr q2))
  refine r_gP hK 0 11 1 3 rfl (by decide) ?_
  refine r_gP hK 3 1 5 37 rfl (by decide) ?_
  refine rn_eq (q_aT (ks_a hK 37 0 7 rfl) c rfl hc (by decide)) ?_
  exact kr_says h
theorem k_partner {x : Int32} (h : CI s z ow R K u y cc) (hR : WF R) : Rn (f_X11_partner N s.1 z x s.2) (KR z R K u cc s) := by
  have hK := h.1
  have n0 := hR.1.1.2
  unfold f_X11_partner f_X11_partner_33
  refine rn_t (ks_o hK 0 11 rfl) ?_
  refine r_gP hK 0 11 1 3 rfl (by decide) ?_
  refine rn_eq (k_hasCrossing hK h.2.2.1.1 hR.1) ?_
  refine rn_ite (fun _ => kr_refuses h) (fun q1 => ?_)
  obtain ⟨c, hc, rfl, -⟩ := st_of (by omega) (fun q => q1 (ite01.mpr q))
  refine r_gP hK 0 11 1 3 rfl (by decide) ?_
  refine r_gP hK 3 1 6 38 rfl (by decide) ?_
  refine rn_eq (q_aT (ks_a hK 38 0 60 rfl) c rfl (by omega) (by decide)) ?_
  exact kr_says h
theorem k_part {x x2 : Int32} (h : CI s z ow R K u y cc) (hR : WF R) : Rn (f_X11_part N s.1 z x x2 s.2) (KR z R K u cc s) := by
  have hK := h.1
  have n3 := hR.1.2.2.2.1.2
  have hT := h.2.2.1.2.2.2.1
  unfold f_X11_part f_X11_part_24
  refine rn_t (ks_o hK 0 11 rfl) ?_
  refine r_gP hK 0 11 1 3 rfl (by decide) ?_
  refine r_gP hK 3 1 3 20 rfl (by decide) ?_
  refine rn_eq (tb_has (o := 20) (nc := 9) hK (by decide) hT) ?_
  refine rn_ite (fun _ => kr_refuses h) (fun q3 => ?_)
  obtain ⟨i, hi, rfl, -⟩ := st_of (by omega) (fun q => q3 (ite01.mpr q))
  refine rn_ite (fun _ => kr_refuses h) (fun q1 => ?_)
  refine rn_ite (fun q2 => ?_) (fun _ => kr_refuses h)
  obtain ⟨c, hc, rfl, -⟩ := st_of (x := x2) (n := 9) (by omega) (fun r => r.elim q1 (show ¬ (nI 9 ≤ x2) from Int32.not_le.mpr q2))
  refine r_gP hK 0 11 1 3 rfl (by decide) ?_
  refine r_gP hK 3 1 3 20 rfl (by decide) ?_
  refine rn_eq (tb_get (o := 20) (nc := 9) (c := c) hK (by decide) hT rfl hi rfl hc) ?_
  exact kr_says h
/-! the reference -/
theorem m_partner {x : Int32} (hK : KS sh z) (h : RI d z R K u) (hR : WF R) : Rn (f_X12_partner N sh (z + 242) x d) (RR z R K u d) := by
  have n0 := hR.1.1.2
  unfold f_X12_partner f_X12_partner_31
  refine rn_t (ks_o hK 242 12 rfl) ?_
  refine rn_eq (ri_isCrossing hK h hR.1) ?_
  refine rn_ite (fun h1 => rr_refuses hK h MFR.rf) (fun h1 => ?_)
  obtain ⟨c, hc, rfl, -⟩ := st_of (by omega) (fun q => h1 (ite01.mpr q))
  refine rdg hK h.1 (9582 + c) (by rw [show (9582 : Int32) = nI 9582 from rfl, nI_add]) (by omega) ?_
  exact rr_says hK h MFR.rf
theorem rdp {β : Type} {Q : β → Prop} {g : Int32 → Option β} {x : Int32} {p : Nat} (hK : KS sh z) (hp : p < 12) (k : Nat) (hk : k < 13) (hx : x = nI k) (kk : ∀ v, Rn (g v) Q) : Rn ((gP sh (z + 242) 12 0).bind fun v1 => (aT 0 sh d v1 ((9426 : Int32) + (13 : Int32) * nI p + x)).bind g) Q := by
  subst hx
  refine r_gP hK 242 12 0 243 rfl (by decide) ?_
  exact rn_eq (q_aT (ks_a hK 243 0 15642 rfl) (9426 + 13 * p + k) (ix_pl p k) (by omega) (by decide)) (kk _)
theorem m_part {x x2 : Int32} (hK : KS sh z) (h : RI d z R K u) (hR : WF R) : Rn (f_X12_part N sh (z + 242) x x2 d) (RR z R K u d) := by
  have n3 := hR.1.2.2.2.1
  unfold f_X12_part f_X12_part_18 f_X12_part_37
  refine rn_t (ks_o hK 242 12 rfl) ?_
  refine rn_eq (show f_X12_isPlough N sh (z + 242) x d = some (if x < 0 ∨ nI (nn R 3) ≤ x then 0 else 1) from ?_) ?_
  · have a3 := h.1 3 (by decide)
    have a4 : nn (d.1 (z + 243)) 3 = nn R 3 := by unfold nn; rw [a3]
    rw [← a4]
    exact m_isPlough hK rfl (by rw [a4, a3]; exact n3.1) (by rw [a4]; omega)
  refine rn_ite (fun h1 => rr_refuses hK h MFR.rf) (fun h1 => ?_)
  obtain ⟨p, hp, rfl, -⟩ := st_of (by omega) (fun q => h1 (ite01.mpr q))
  refine rn_eq m_in ?_
  refine rn_ite (fun _ => ?_) (fun _ => rr_refuses hK h MFR.rf)
  refine rn_bind (P := fun _ => True) ?_ (fun v _ => rr_says hK h MFR.rf)
  have hp12 : p < 12 := by omega
  unfold f_X12_partAt f_X12_partAt_135
  refine rn_t (ks_o hK 242 12 rfl) ?_
  refine rn_eq (m_pl hK) ?_
  refine rn_ite (fun _ => rdp hK hp12 6 (by decide) rfl (fun _ => rn_some trivial)) (fun _ => ?_)
  refine rn_ite (fun _ => rdp hK hp12 7 (by decide) rfl (fun _ => rn_some trivial)) (fun _ => ?_)
  refine rn_ite (fun _ => rdp hK hp12 8 (by decide) rfl (fun _ => rn_some trivial)) (fun _ => ?_)
  refine rn_ite (fun _ => rdp hK hp12 9 (by decide) rfl (fun _ => rn_some trivial)) (fun _ => ?_)
  refine rn_ite (fun _ => rdp hK hp12 10 (by decide) rfl (fun _ => rn_some trivial)) (fun _ => ?_)
  refine rn_ite (fun _ => rdp hK hp12 1 (by decide) rfl (fun _ => rn_some trivial)) (fun _ => ?_)
  refine rn_ite (fun _ => rdp hK hp12 2 (by decide) rfl (fun v => ?_)) (fun _ => ?_)
  · refine rn_ite (fun _ => rdp hK hp12 0 (by decide) rfl (fun _ => rn_some trivial)) (fun _ => rn_some trivial)
  refine rn_ite (fun _ => rdp hK hp12 11 (by decide) rfl (fun _ => rn_some trivial)) (fun _ => ?_)
  exact rdp hK hp12 12 (by decide) rfl (fun _ => rn_some trivial)
end RD
/-! 96.readers2.lean.txt -/
section RD2
variable {s : AS} {sh : Sh} {d d0 d' : Dt} {z : Nat} {R K : Nat → Int32} {u : Bool} {N : Nat}
theorem ix_dr (i k : Nat) : (9642 : Int32) + (3 : Int32) * nI i + nI k = nI (9642 + 3 * i + k) := by
  rw [show (3 : Int32) = nI 3 from rfl, show (9642 : Int32) = nI 9642 from rfl, pk_mul, nI_add, nI_add]
theorem ix_dr0 (i : Nat) : (9642 : Int32) + (3 : Int32) * nI i = nI (9642 + 3 * i) := by
  rw [show (3 : Int32) = nI 3 from rfl, show (9642 : Int32) = nI 9642 from rfl, pk_mul, nI_add]
theorem rdd {β : Type} {Q : β → Prop} {g : Int32 → Option β} {x : Int32} {i : Nat} (hK : KS sh z) (hA : AG (d.1 (z + 243)) R) (hi : i < 2000) (k : Nat) (hk : k < 3) (hx : x = nI k) (kk : Rn (g (R (9642 + 3 * i + k))) Q) : Rn ((gP sh (z + 242) 12 0).bind fun v1 => (aT 0 sh d v1 ((9642 : Int32) + (3 : Int32) * nI i + x)).bind g) Q := by
  subst hx
  exact rdg hK hA (9642 + 3 * i + k) (ix_dr i k) (by omega) kk
theorem rdd0 {β : Type} {Q : β → Prop} {g : Int32 → Option β} {i : Nat} (hK : KS sh z) (hA : AG (d.1 (z + 243)) R) (hi : i < 2000) (kk : Rn (g (R (9642 + 3 * i))) Q) : Rn ((gP sh (z + 242) 12 0).bind fun v1 => (aT 0 sh d v1 ((9642 : Int32) + (3 : Int32) * nI i)).bind g) Q := rdg hK hA (9642 + 3 * i) (ix_dr0 i) (by omega) kk
theorem rst {β : Type} {Q : β → Prop} {g : Int32 → Option β} {x : Int32} {s : Nat} (hK : KS sh z) (hA : AG (d.1 (z + 243)) R) (k : Nat) (hs : s < 150) (hk : k < 9) (hx : x = nI k) (kk : Rn (g (R (16 + 9 * s + k))) Q) : Rn ((gP sh (z + 242) 12 0).bind fun v1 => (aT 0 sh d v1 ((16 : Int32) + (9 : Int32) * nI s + x)).bind g) Q := by
  subst hx
  exact rdg hK hA (16 + 9 * s + k) (ix_st s k) (by omega) kk
theorem m_at {x x2 : Int32} (hK : KS sh z) (h : RI d z R K u) (hR : WF R) : Rn (f_X12_at N sh (z + 242) x x2 d) (RR z R K u d) := by
  have n4 := hR.1.2.2.2.2
  have n1 := hR.1.2.1.2
  unfold f_X12_at f_X12_at_43
  refine rn_t (ks_o hK 242 12 rfl) ?_
  refine rn_eq m_in ?_
  refine rn_ite (fun _ => ?_) (fun _ => rr_refuses hK h MFR.rf)
  refine rdg hK h.1 4 rfl (by decide) ?_
  rw [n4.1]
  refine rn_eq m_in ?_
  refine rn_ite (fun _ => rr_says hK h MFR.rf) (fun q2 => ?_)
  have q2 : ¬ (x < 0 ∨ nI (nn R 4) ≤ x) := fun r => q2 (ite01.mpr (r.imp id (fun r => (lt_pred (by omega)).mpr r)))
  obtain ⟨i, hi, rfl, -⟩ := st_of (by omega) q2
  obtain ⟨s, c, hs, e0, e1, -⟩ := hR.2.2.2.2.2 i hi
  refine rn_bind (P := fun _ => True) ?_ (fun v _ => rr_says hK h MFR.rf)
  unfold f_X12_driveAt f_X12_driveAt_68
  refine rn_t (ks_o hK 242 12 rfl) ?_
  refine rn_ite (fun _ => ?_) (fun _ => rdd0 hK h.1 (by omega) (rn_some trivial))
  refine rn_ite (fun _ => ?_) (fun _ => rdd hK h.1 (by omega) 1 (by decide) rfl (rn_some trivial))
  refine rn_ite (fun _ => rdd hK h.1 (by omega) 2 (by decide) rfl (rn_some trivial)) (fun _ => ?_)
  refine rn_bind (P := fun _ => True) ?_ (fun v _ => rn_some trivial)
  unfold f_X12_to f_X12_to_64
  refine rn_t (ks_o hK 242 12 rfl) ?_
  refine rdd0 hK h.1 (by omega) ?_
  rw [e0]
  refine rn_eq (m_st hK) ?_
  refine rdd hK h.1 (by omega) 1 (by decide) rfl ?_
  refine rst hK h.1 7 (by omega) (by decide) rfl ?_
  refine rn_ite (fun _ => rst hK h.1 7 (by omega) (by decide) rfl (rn_some trivial)) (fun _ => rst hK h.1 8 (by omega) (by decide) rfl (rn_some trivial))
theorem len_loop {x : Int32} (hK : KS sh z) (h : RI d z R K u) (hR : WF R) : ∀ (m i fu : Nat) (a b : Int32), i + m = nn R 4 → m < fu → Rn (f_X12_length_7 N sh fu (z + 242) x a b (nI i) d) (RR z R K u d)
  | 0, i, fu, a, b, hi, hf => by
    obtain ⟨fu, rfl⟩ : ∃ q, fu = q + 1 := ⟨fu - 1, by omega⟩
    show Rn (g_X12_length_7 N sh (f_X12_length_7 N sh fu) (z + 242) x a b (nI i) d) _
    have n4 := hR.1.2.2.2.2
    unfold g_X12_length_7
    refine rdg hK h.1 4 rfl (by decide) ?_
    rw [n4.1]
    refine rn_t ((nI_leI (by omega) (by omega)).mpr (by omega)) ?_
    unfold f_X12_length_70
    refine rn_ite (fun _ => rdg hK h.1 4 rfl (by decide) (rr_says hK h MFR.rf)) (fun _ => ?_)
    refine rn_ite (fun _ => rr_says hK h MFR.rf) (fun _ => ?_)
    refine rn_ite (fun _ => rr_says hK h MFR.rf) (fun _ => ?_)
    refine rn_ite (fun _ => rdg hK h.1 6 rfl (by decide) (rr_says hK h MFR.rf)) (fun _ => ?_)
    refine rn_ite (fun _ => rdg hK h.1 7 rfl (by decide) (rr_says hK h MFR.rf)) (fun _ => ?_)
    refine rn_ite (fun _ => rdg hK h.1 8 rfl (by decide) (rr_says hK h MFR.rf)) (fun _ => ?_)
    refine rn_ite (fun _ => rdg hK h.1 5 rfl (by decide) (rr_says hK h MFR.rf)) (fun _ => ?_)
    exact rr_refuses hK h MFR.rf
  | m + 1, i, fu, a, b, hi, hf => by
    obtain ⟨fu, rfl⟩ : ∃ q, fu = q + 1 := ⟨fu - 1, by omega⟩
    have ih := len_loop (x := x) hK h hR m (i + 1) fu
    show Rn (g_X12_length_7 N sh (f_X12_length_7 N sh fu) (z + 242) x a b (nI i) d) _
    have n4 := hR.1.2.2.2.2
    have n1 := hR.1.2.1.2
    have hi4 : i < nn R 4 := by omega
    obtain ⟨s, c, hs, e0, e1, -⟩ := hR.2.2.2.2.2 i hi4
    unfold g_X12_length_7
    refine rdg hK h.1 4 rfl (by decide) ?_
    rw [n4.1, nI_1]
    refine rn_f (nI_ge hi4 (by omega)) ?_
    refine r_gP hK 242 12 0 243 rfl (by decide) ?_
    refine rdd0 hK h.1 (by omega) ?_
    rw [e0]
    refine rn_eq (m_st hK) ?_
    refine rn_eq (q_aT (ks_a hK 243 0 15642 rfl) (16 + 9 * s + 6) (ix_st s 6) (by omega) (by decide)) ?_
    refine rdd hK h.1 (by omega) 2 (by decide) rfl ?_
    exact ih _ _ (by omega) (by omega)
theorem m_length {x : Int32} (hN2 : 2100 ≤ N) (hK : KS sh z) (h : RI d z R K u) (hR : WF R) : Rn (f_X12_length N sh (z + 242) x d) (RR z R K u d) := by
  have n4 := hR.1.2.2.2.2.2
  unfold f_X12_length
  refine rn_t (ks_o hK 242 12 rfl) ?_
  exact len_loop hK h hR (nn R 4) 0 N 0 0 (by omega) (by omega)
end RD2
/-! 97.row.lean.txt -/
/-! row(): a row of as many readings, none of them told -/
def rowF (R : Nat → Int32) (b : Nat) : Nat → Nat → Int32
  | 0 => R
  | k + 1 => va_up (va_up (rowF R b k) (1426 + (b + k)) 0) (5426 + (b + k)) 0
def sp_row (R : Nat → Int32) (x n : Int32) : Int32 × Option (Nat → Int32) := if x < 0 ∨ nI (nn R 2) ≤ x then (-2, none) else if n ≤ 200 then (if 0 ≤ n then (1, some (rowF (va_up R (1366 + 3 * x.toNatClampNeg + 2) n) (200 * x.toNatClampNeg) n.toNatClampNeg)) else (-7, none)) else (-2, none)
section RW
variable {sh : Sh} {d d0 : Dt} {z : Nat} {R R1 K : Nat → Int32} {u : Bool} {N g n b : Nat}
theorem wn_row (h : WN R) : ∀ k, WN (rowF R b k)
  | 0 => h
  | k + 1 => wn_up (wn_up (wn_row h k) (by omega)) (by omega)
theorem row_loop (hK : KS sh z) (hg : g < 20) (hn : n ≤ 200) (hN : WN R1) (hm : MFR z d0 d0) : ∀ (m k fu : Nat) (d : Dt), k + m = n → m < fu → MFR z d0 d → RI d z (rowF R1 (200 * g) k) R true → Rn (f_X12_row_56 N sh fu (z + 242) (nI g) (nI n) (nI (200 * g + k)) d) (RO z R K u (1, some (rowF R1 (200 * g) n)) d0)
  | 0, k, fu, d, hk, hf, hM, hI => by
    obtain ⟨fu, rfl⟩ : ∃ q, fu = q + 1 := ⟨fu - 1, by omega⟩
    show Rn (g_X12_row_56 N sh (f_X12_row_56 N sh fu) (z + 242) (nI g) (nI n) (nI (200 * g + k)) d) _
    unfold g_X12_row_56 f_X12_row_95
    have e : (200 : Int32) * nI g + nI n = nI (200 * g + n) := by rw [show (200 : Int32) = nI 200 from rfl, pk_mul, nI_add]
    rw [e]
    refine rn_t ((nI_leI (by omega) (by omega)).mpr (by omega)) ?_
    have ek : k = n := by omega
    subst ek
    exact ro_done hK hI hM rfl
  | m + 1, k, fu, d, hk, hf, hM, hI => by
    obtain ⟨fu, rfl⟩ : ∃ q, fu = q + 1 := ⟨fu - 1, by omega⟩
    have ih := row_loop hK hg hn hN hm m (k + 1) fu
    show Rn (g_X12_row_56 N sh (f_X12_row_56 N sh fu) (z + 242) (nI g) (nI n) (nI (200 * g + k)) d) _
    unfold g_X12_row_56
    have e : (200 : Int32) * nI g + nI n = nI (200 * g + n) := by rw [show (200 : Int32) = nI 200 from rfl, pk_mul, nI_add]
    rw [e]
    refine rn_f (nI_ge (by omega) (by omega)) ?_
    have ha := ks_a hK 243 0 15642 rfl
    refine r_gP hK 242 12 0 243 rfl (by decide) ?_
    refine rn_eq (q_sI ha (1426 + (200 * g + k)) (by rw [show (1426 : Int32) = nI 1426 from rfl, nI_add]) (by omega) (by decide)) ?_
    refine r_gP hK 242 12 0 243 rfl (by decide) ?_
    refine rn_eq (q_sI ha (5426 + (200 * g + k)) (by rw [show (5426 : Int32) = nI 5426 from rfl, nI_add]) (by omega) (by decide)) ?_
    rw [nI_1]
    have hw := wn_row (b := 200 * g) hN k
    have r1 := ri_cellG (j := 1426 + (200 * g + k)) (v := 0) hI hw (by omega) (fun s k _ q1 q2 => by omega)
    have r2 := ri_cellG (j := 5426 + (200 * g + k)) (v := 0) r1 (wn_up hw (by omega)) (by omega) (fun s k _ q1 q2 => by omega)
    exact ih _ (by omega) (by omega) (hM.tr ((MFR.wI (by decide) (by decide)).tr (MFR.wI (by decide) (by decide)))) r2
theorem m_row {x n : Int32} (hNf : 15642 < N) (hK : KS sh z) (h : RI d z R K u) (hR : WF R) : Rn (f_X12_row N sh (z + 242) x n d) (RO z R K u (sp_row R x n) d) := by
  have hN := hR.1
  have n2 := hN.2.2.1.2
  unfold f_X12_row f_X12_row_15
  refine rn_t (ks_o hK 242 12 rfl) ?_
  refine rn_eq (ri_isGauge hK h hN) ?_
  by_cases hb : x < 0 ∨ nI (nn R 2) ≤ x
  · rw [show sp_row R x n = _ from if_pos hb]
    refine rn_t (ite01.mpr hb) ?_
    exact ro_refuses hK h rfl
  rw [show sp_row R x n = _ from if_neg hb]
  refine rn_f (fun q => hb (ite01.mp q)) ?_
  by_cases h1 : n ≤ 200
  · refine rn_t h1 ?_
    rw [if_pos h1]
    by_cases h0 : 0 ≤ n
    · refine rn_t h0 ?_
      rw [if_pos h0]
      obtain ⟨g, hg, rfl, e2⟩ := st_of (by omega) hb
      obtain ⟨m, hm, rfl, e3⟩ := st_of (x := n) (n := 201) (by omega) (fun r => r.elim (Int32.not_lt.mpr h0) (fun r => absurd (Int32.le_trans r h1) (by decide)))
      rw [e2, e3]
      refine rn_bind (ri_keeps h hK hNf) (fun d1 hd => ?_)
      obtain ⟨x1, x2⟩ := hd
      have ha := ks_a hK 243 0 15642 rfl
      refine r_gP hK 242 12 0 243 rfl (by decide) ?_
      refine rn_eq (m_ga hK) ?_
      refine rn_eq (q_sI ha (1366 + 3 * g + 2) (ix_ga g 2) (by omega) (by decide)) ?_
      have r1 := ri_cellG (j := 1366 + 3 * g + 2) (v := nI m) x1 hN (by omega) (fun s k _ q1 q2 => by omega)
      have e : (200 : Int32) * nI g = nI (200 * g + 0) := by rw [show (200 : Int32) = nI 200 from rfl, pk_mul]; rfl
      rw [e]
      exact row_loop (d0 := d) hK (by omega) (by omega) (wn_up hN (by omega)) MFR.rf m 0 N _ (by omega) (by omega) (x2.tr (MFR.wI (by decide) (by decide))) r1
    · refine rn_f h0 ?_
      rw [if_neg h0]
      exact ro_refuses hK h rfl
  · refine rn_f h1 ?_
    rw [if_neg h1]
    exact ro_refuses hK h rfl
end RW
/-! 98.row2.lean.txt -/
section RW2
variable {s : AS} {sh : Sh} {d d0 : Dt} {z : Nat} {ow : Nat → Nat} {R R' R1 K : Nat → Int32} {u : Bool} {y : YL} {c N g n b : Nat} {q : BL}
theorem bt_congr2 (hN : WN R) (hwd : ∀ i, i < nn R 4 → nn R (9642 + 3 * i) < 150) (h : BT sh d z ow b R q) (e : ∀ j, j < 1426 ∨ 9426 ≤ j → R' j = R j) : BT sh d z ow b R' q := by
  obtain ⟨h0, h1, h2, h3, h4, h6, h7⟩ := h
  have n1 := hN.2.1.2
  have n2 := hN.2.2.1.2
  have en : ∀ j, j < 1426 ∨ 9426 ≤ j → nn R' j = nn R j := fun j hj => by unfold nn; rw [e j hj]
  unfold BT
  rw [e 0 (by omega), en 1 (by omega), en 2 (by omega), en 3 (by omega), en 4 (by omega)]
  refine ⟨h0, tb_congr h1 (fun c' i' hc hi' => e _ (by omega)), tb_congr h2 (fun c' i' hc hi' => e _ (by omega)), tb_congr h3 (fun c' i' hc hi' => ?_), tb_congr h4 (fun c' i' hc hi' => ?_), h6, h7⟩
  · unfold vP
    simp only [e (9426 + 13 * i' + 6) (by omega), e (9426 + 13 * i' + 7) (by omega), e (9426 + 13 * i' + 8) (by omega), e (9426 + 13 * i' + 9) (by omega), e (9426 + 13 * i' + 10) (by omega), e (9426 + 13 * i' + 1) (by omega), e (9426 + 13 * i' + 2) (by omega), e (9426 + 13 * i') (by omega), e (9426 + 13 * i' + 11) (by omega), e (9426 + 13 * i' + 12) (by omega)]
  · have hs := hwd _ hi'
    unfold vD
    rw [en (9642 + 3 * i') (by omega), e (9642 + 3 * i') (by omega), e (9642 + 3 * i' + 1) (by omega), e (9642 + 3 * i' + 2) (by omega), e (16 + 9 * nn R (9642 + 3 * i') + 7) (by omega), e (16 + 9 * nn R (9642 + 3 * i') + 8) (by omega)]
theorem rowF_out (R : Nat → Int32) {b j : Nat} (h : j < 1426 + b ∨ 9426 ≤ j) : ∀ k, b + k ≤ 4000 → rowF R b k j = R j
  | 0, _ => rfl
  | k + 1, hk => by
    show va_up (va_up (rowF R b k) (1426 + (b + k)) 0) (5426 + (b + k)) 0 j = R j
    rw [va_up_n (by omega), va_up_n (by omega)]
    exact rowF_out R h k (by omega)
/-- the cells of all rows but g's, and the first k of g's -/
def inR (R : Nat → Int32) (g k j : Nat) : Prop := j < 4000 ∧ ((inC R j ∧ ¬ (200 * g ≤ j ∧ j < 200 * g + 200)) ∨ (200 * g ≤ j ∧ j < 200 * g + k))
theorem lay_loop {Lc : Nat} (hK : KS sh z) (hg : g < nn R 2) (hn : n ≤ 200) (hN : WN R) (hL : nn R 2 * 200 ≤ Lc) (ht : TB sh d0 z ow 15 3 (nn R 2) (vG R1) q.2.1) : ∀ (m k fu : Nat) (d : Dt), k + m = n → m < fu → d.1 = d0.1 → d.2.2 = d0.2.2 → (∀ a, ow a ≠ 16 * 3 + 1 → d.2.1 a = d0.2.1 a) → CE sh d z ow 3 Lc (inR R g k) (vC (rowF R1 (200 * g) k)) → Rn (f_X1_lay_12 N sh fu (z + 3) (nI g) (nI n) (nI k) d) (fun d' => d'.1 = d0.1 ∧ d'.2.2 = d0.2.2 ∧ (∀ a, ow a ≠ 16 * 3 + 1 → d'.2.1 a = d0.2.1 a) ∧ CE sh d' z ow 3 Lc (inR R g n) (vC (rowF R1 (200 * g) n)))
  | 0, k, fu, d, hk, hf, h1, h2, h3, hc => by
    obtain ⟨fu, rfl⟩ : ∃ q, fu = q + 1 := ⟨fu - 1, by omega⟩
    show Rn (g_X1_lay_12 N sh (f_X1_lay_12 N sh fu) (z + 3) (nI g) (nI n) (nI k) d) _
    unfold g_X1_lay_12 f_X1_lay_30
    refine rn_t ((nI_leI (by omega) (by omega)).mpr (by omega)) ?_
    have ek : k = n := by omega
    subst ek
    exact rn_some ⟨h1, h2, h3, hc⟩
  | m + 1, k, fu, d, hk, hf, h1, h2, h3, hc => by
    obtain ⟨fu, rfl⟩ : ∃ q, fu = q + 1 := ⟨fu - 1, by omega⟩
    have n2 := hN.2.2.1.2
    have ih := lay_loop hK hg hn hN hL ht m (k + 1) fu
    show Rn (g_X1_lay_12 N sh (f_X1_lay_12 N sh fu) (z + 3) (nI g) (nI n) (nI k) d) _
    unfold g_X1_lay_12
    refine rn_f (nI_ge (by omega) (by omega)) ?_
    have ht2 : TB sh d z ow 15 3 (nn R 2) (vG R1) q.2.1 := by
      unfold TB at ht ⊢
      rw [h1, h2]
      exact ht
    refine rn_bind (k_setCell (b := 3) (q := q) (R' := R1) (Or.inl rfl) hK hN ht2 hc hL hg (by omega)) (fun d1 hd => ?_)
    obtain ⟨a, rfl, q1, q2, hce⟩ := hd
    rw [nI_1]
    refine ih _ (by omega) (by omega) h1 h2 (fun x hx => ?_) ?_
    · show up2 d.2.1 a (200 * g + k) 0 x = _
      rw [up2_n (fun e => hx (by rw [e]; exact q2))]
      exact h3 x hx
    · obtain ⟨a', z1, z2, z3, z4, z5, z6⟩ := hce
      refine ⟨a', z1, z2, z3, z4, z5, fun j hj => ?_⟩
      obtain ⟨j1, j2⟩ := hj
      have hp : inR R g k j ∨ j = 200 * g + k := by
        rcases j2 with j2 | j2
        · exact Or.inl ⟨j1, Or.inl j2⟩
        · by_cases e : j = 200 * g + k
          · exact Or.inr e
          · exact Or.inl ⟨j1, Or.inr ⟨j2.1, by omega⟩⟩
      have r := z6 j hp
      refine ⟨r.1, r.2.trans ?_⟩
      have er : rowF R1 (200 * g) (k + 1) = va_up (va_up (rowF R1 (200 * g) k) (1426 + (200 * g + k)) 0) (5426 + (200 * g + k)) 0 := rfl
      rw [er]
      show (if j = 200 * g + k then (0 : Int64) else vC (rowF R1 (200 * g) k) j) = _
      unfold vC
      by_cases e : j = 200 * g + k
      · rw [if_pos e, e, va_up_s, va_up_n (by omega), va_up_s]
        rfl
      · rw [if_neg e]
        have x1 : va_up (va_up (rowF R1 (200 * g) k) (1426 + (200 * g + k)) 0) (5426 + (200 * g + k)) 0 (5426 + j) = rowF R1 (200 * g) k (5426 + j) := by rw [va_up_n (by omega), va_up_n (by omega)]
        have x2 : va_up (va_up (rowF R1 (200 * g) k) (1426 + (200 * g + k)) 0) (5426 + (200 * g + k)) 0 (1426 + j) = rowF R1 (200 * g) k (1426 + j) := by rw [va_up_n (by omega), va_up_n (by omega)]
        rw [x1, x2]
theorem k_row {x n : Int32} (hNf : 300 ≤ N) (h : CI s z ow R K u y c) (hR : WF R) (hKF : WF K) : Rn (f_X11_row N z x n s) (KO z R K u c (sp_row R x n) s) := by
  have hK := h.1
  have n2 := hR.1.2.2.1.2
  have ht : tck 15 3 = true := by decide
  have hB : BK s.1 s.2 z ow 3 R y.1 := h.2.2.1
  unfold f_X11_row f_X11_row_21
  refine rn_t (ks_o hK 0 11 rfl) ?_
  refine r_gP hK 0 11 1 3 rfl (by decide) ?_
  refine r_gP hK 3 1 2 15 rfl (by decide) ?_
  refine rn_eq (tb_has (o := 15) (nc := 3) hK ht hB.2.2.1) ?_
  by_cases hb : x < 0 ∨ nI (nn R 2) ≤ x
  · rw [show sp_row R x n = _ from if_pos hb]
    refine rn_t (ite01.mpr hb) ?_
    refine rn_bind (k_refuse hK) (fun r hr => rn_some ?_)
    exact ko_lg h hr rfl
  rw [show sp_row R x n = _ from if_neg hb]
  refine rn_f (fun q => hb (ite01.mp q)) ?_
  by_cases h1 : n ≤ 200
  · refine rn_t h1 ?_
    rw [if_pos h1]
    by_cases h0 : 0 ≤ n
    · refine rn_t h0 ?_
      rw [if_pos h0]
      obtain ⟨g, hg, rfl, e2⟩ := st_of (by omega) hb
      obtain ⟨m, hm, rfl, e3⟩ := st_of (x := n) (n := 201) (by omega) (fun r => r.elim (Int32.not_lt.mpr h0) (fun r => absurd (Int32.le_trans r h1) (by decide)))
      rw [e2, e3]
      refine rn_bind (ci_change (by omega) h hR.1 hR.2.1 hKF.1) (fun s1 hs => ?_)
      obtain ⟨f1, g1, g2, g3, ow1, y1, -, c1⟩ := hs
      have hK1 := c1.1
      have hw1 := c1.2.1
      have hB1 : BK s1.1 s1.2 z ow1 3 R y1.1 := c1.2.2.1
      unfold f_X11_row_43
      refine r_gP hK1 0 11 1 3 rfl (by decide) ?_
      have hN1 : WN (va_up R (1366 + 3 * g + 2) (nI m)) := wn_up hR.1 (by omega)
      have hwd : ∀ i, i < nn (va_up R (1366 + 3 * g + 2) (nI m)) 4 → nn (va_up R (1366 + 3 * g + 2) (nI m)) (9642 + 3 * i) < 150 := fun i hi => by
        rw [nn_up (by omega)] at hi ⊢
        exact wd_nn hR hi
      refine rn_bind (P := fun d2 => FD (IX z ow1 3 16) s1.2 d2 ∧ BK s1.1 d2 z ow1 3 (rowF (va_up R (1366 + 3 * g + 2) (nI m)) (200 * g) m) y1.1) ?_ (fun d2 hd2 => ?_)
      · unfold f_X1_lay
        refine rn_t (ks_o hK1 3 1 rfl) ?_
        refine r_gP hK1 3 1 2 15 rfl (by decide) ?_
        refine rn_bind (tb_put (o := 15) (nc := 3) (c := 2) hK1 hw1 ht hB1.2.2.1 rfl hg rfl (by decide)) (fun d1 hd => ?_)
        have hbt := bt_upG (b := 3) (Or.inl rfl) hK1 hw1 hR hB1.bt.1 hg (k := 2) (by decide) hd.1 hd.2
        have hfx : FD (IX z ow1 15 16) s1.2 d1 := hd.2.mono (fun a ha => tx_ix ht hw1 ha)
        have hce : CE s1.1 d1 z ow1 3 y1.1.2.2.2.2 (inC R) (vC R) := ce_ix (s := (s1.1, s1.2)) hB1.bt.2 hK1 (hw1 3 (by decide) (by decide)) (by decide) (hfx.es (sh := s1.1)) (by omega)
        have hce0 : CE s1.1 d1 z ow1 3 y1.1.2.2.2.2 (inR R g 0) (vC (rowF (va_up R (1366 + 3 * g + 2) (nI m)) (200 * g) 0)) := by
          obtain ⟨a, z1, z2, z3, z4, z5, z6⟩ := hce
          refine ⟨a, z1, z2, z3, z4, z5, fun k hk => ?_⟩
          obtain ⟨k1, k2 | k2⟩ := hk
          · have r := z6 k k2.1
            refine ⟨r.1, r.2.trans ?_⟩
            show _ = vC (va_up R (1366 + 3 * g + 2) (nI m)) k
            unfold vC
            rw [va_up_n (by omega), va_up_n (by omega)]
          · omega
        have ht1 : TB s1.1 d1 z ow1 15 3 (nn R 2) (vG (va_up R (1366 + 3 * g + 2) (nI m))) y1.1.2.1 := by
          have r := hbt.2.2.1
          rw [nn_up (by omega)] at r
          exact r
        refine rn_mono (lay_loop (q := y1.1) (d0 := d1) (n := m) hK1 hg (by omega) hR.1 hB1.bt.1.2.2.2.2.2.1 ht1 m 0 N d1 (by omega) (by omega) rfl rfl (fun _ _ => rfl) hce0) (fun d2 hd2 => ?_)
        obtain ⟨w1, w2, w3, w4⟩ := hd2
        refine ⟨fun a ha => ?_, ?_⟩
        · have r := hfx a (fun q => ha (ix_mono q (by omega) (by omega)))
          refine ⟨by rw [w1]; exact r.1, ?_, by rw [w2]; exact r.2.2.1, by rw [w2]; exact r.2.2.2⟩
          rw [w3 a (fun e => ha (by unfold IX; rw [onr_r (o := 3) (k := 0) e (by omega)]; omega))]
          exact r.2.1
        · have hbt2 : BT s1.1 d2 z ow1 3 (va_up R (1366 + 3 * g + 2) (nI m)) y1.1 := by
            unfold BT TB at hbt ⊢
            rw [w1, w2]
            exact hbt
          have hbt3 := bt_congr2 (R' := rowF (va_up R (1366 + 3 * g + 2) (nI m)) (200 * g) m) hN1 hwd hbt2 (fun j hj => rowF_out _ (by omega) m (by omega))
          refine hbt3.bk ?_
          obtain ⟨a, z1, z2, z3, z4, z5, z6⟩ := w4
          refine ⟨a, z1, z2, z3, z4, z5, fun k hk => z6 k ?_⟩
          obtain ⟨g', h', r1, r2, r3⟩ := hk
          have en : ∀ j, j < 1426 → nn (rowF (va_up R (1366 + 3 * g + 2) (nI m)) (200 * g) m) j = nn (va_up R (1366 + 3 * g + 2) (nI m)) j := fun j hj => by unfold nn; rw [rowF_out _ (by omega) m (by omega)]
          rw [en 2 (by omega), nn_up (by omega)] at r1
          rw [en _ (by omega)] at r2
          by_cases e : g' = g
          · subst e
            have : nn (va_up R (1366 + 3 * g' + 2) (nI m)) (1366 + 3 * g' + 2) = m := by
              unfold nn
              rw [va_up_s]
              exact nI_clamp (by omega)
            rw [this] at r2
            exact ⟨by omega, Or.inr ⟨by omega, by omega⟩⟩
          · rw [nn_up (by omega)] at r2
            have b2 := (hR.2.1 g' r1).2
            exact ⟨by omega, Or.inl ⟨⟨g', h', r1, r2, r3⟩, by omega⟩⟩
      · have qn := ci_new c1 g1 g2 g3 (hd2.1.mono (fun a ha => ix_mono ha (by omega) (by omega))) hd2.2 (pb_congr c1.2.2.2.2.2.1 (by rw [rowF_out _ (by omega) m (by omega)]; exact va_up_n (by omega)) (fun j hj => by rw [rowF_out _ (by omega) m (by omega)]; exact va_up_n (by omega)))
        refine rn_bind (k_answer hK1) (fun r hr => rn_some ?_)
        have q2 := ci_lg qn.1 hr.2
        exact ⟨hr.1, (f1.tr qn.2).tr q2.2, ow1, y1, q2.1⟩
    · refine rn_f h0 ?_
      rw [if_neg h0]
      refine rn_bind (k_refuse hK) (fun r hr => rn_some ?_)
      exact ko_lg h hr rfl
  · refine rn_f h1 ?_
    rw [if_neg h1]
    refine rn_bind (k_refuse hK) (fun r hr => rn_some ?_)
    exact ko_lg h hr rfl
end RW2
/-! 99.gauge.lean.txt -/
/-! books with other PLOUGHS, other DRIVES; gauge() -/
section GN
variable {s s' : AS} {sh : Sh} {d d' : Dt} {z : Nat} {ow ow' : Nat → Nat} {R R' K : Nat → Int32} {u : Bool} {y : YL} {c N : Nat} {q q' : BL}
theorem vP_cg {c i : Nat} (hi : i < 12) (e : ∀ j, 9426 ≤ j → j < 9582 → R' j = R j) : vP R' c i = vP R c i := by
  unfold vP
  simp only [e (9426 + 13 * i + 6) (by omega) (by omega), e (9426 + 13 * i + 7) (by omega) (by omega), e (9426 + 13 * i + 8) (by omega) (by omega), e (9426 + 13 * i + 9) (by omega) (by omega), e (9426 + 13 * i + 10) (by omega) (by omega), e (9426 + 13 * i + 1) (by omega) (by omega), e (9426 + 13 * i + 2) (by omega) (by omega), e (9426 + 13 * i) (by omega) (by omega), e (9426 + 13 * i + 11) (by omega) (by omega), e (9426 + 13 * i + 12) (by omega) (by omega)]
theorem wd_e {i : Nat} (h : WF R) (hi : i < nn R 4) : nn R (9642 + 3 * i) < nn R 1 ∧ R (9642 + 3 * i) = nI (nn R (9642 + 3 * i)) := by
  obtain ⟨t, c, h1, h2, -⟩ := h.2.2.2.2.2 i hi
  have n1 := h.1.2.1.2
  have e : nn R (9642 + 3 * i) = t := by
    unfold nn
    rw [h2, nI_clamp (by omega)]
  rw [e]
  exact ⟨h1, h2⟩
/-- what the DRIVES' columns want -/
def WDn (R : Nat → Int32) : Prop := WN R ∧ WG R ∧ ∀ i, i < nn R 4 → nn R (9642 + 3 * i) < nn R 1
theorem wdn_of (h : WF R) : WDn R := ⟨h.1, h.2.1, fun i hi => (wd_e h hi).1⟩
theorem vD_cg {c i : Nat} (hR : WDn R) (hi : i < nn R 4) (e : ∀ j, 9642 ≤ j → R' j = R j) (ee : ∀ t k, t < nn R 1 → k = 7 ∨ k = 8 → R' (16 + 9 * t + k) = R (16 + 9 * t + k)) : vD R' c i = vD R c i := by
  have w := hR.2.2 i hi
  have en : nn R' (9642 + 3 * i) = nn R (9642 + 3 * i) := by unfold nn; rw [e _ (by omega)]
  unfold vD
  rw [en, e (9642 + 3 * i) (by omega), e (9642 + 3 * i + 1) (by omega), e (9642 + 3 * i + 2) (by omega), ee _ 7 w (Or.inl rfl), ee _ 8 w (Or.inr rfl)]
theorem inC_lt {k : Nat} (hN : WN R) (hG : WG R) (h : inC R k) : k < 4000 := by
  obtain ⟨g, hh, h1, h2, h3⟩ := h
  have := (hG g h1).2
  have := hN.2.2.1.2
  omega
theorem ce_cg {b Lc : Nat} (hN : WN R) (hG : WG R) (h : CE sh d z ow b Lc (inC R) (vC R)) (e2 : nn R' 2 = nn R 2) (e : ∀ j, 1366 ≤ j → j < 9426 → R' j = R j) : CE sh d z ow b Lc (inC R') (vC R') := by
  obtain ⟨a, z1, z2, z3, z4, z5, z6⟩ := h
  have n2 := hN.2.2.1.2
  refine ⟨a, z1, z2, z3, z4, z5, fun k hk => ?_⟩
  have hk2 : inC R k := by
    obtain ⟨g, hh, q1, q2, q3⟩ := hk
    rw [e2] at q1
    have en : nn R' (1366 + 3 * g + 2) = nn R (1366 + 3 * g + 2) := by unfold nn; rw [e _ (by omega) (by omega)]
    rw [en] at q2
    exact ⟨g, hh, q1, q2, q3⟩
  have r := z6 k hk2
  have hlt := inC_lt hN hG hk2
  refine ⟨r.1, r.2.trans ?_⟩
  unfold vC
  rw [e (5426 + k) (by omega) (by omega), e (1426 + k) (by omega) (by omega)]
/-- the books with other PLOUGHS -/
theorem bk_P {b : Nat} {L' : Nat → Nat} (hR : WDn R) (hb : bck b) (hK : KS s.1 z) (hw : OWS ow z) (h : BK s.1 s.2 z ow b R q) (he : ES (IX z ow (b + 17) (b + 18)) s ow s' ow') (ht : TB s'.1 s'.2 z ow' (b + 17) 9 (nn R' 3) (vP R') L') (hL : ∀ c, c < 9 → L' c ≤ 24) (e : ∀ k, k ≠ 3 → k < 9426 ∨ 9582 ≤ k → R' k = R k) : BK s'.1 s'.2 z ow' b R' (q.1, q.2.1, L', q.2.2.2) := by
  obtain ⟨h0, h1, h2, h3, h4, h5, h6, h7⟩ := h
  have hwb := bck_w hb hw
  have hts := bck_t hb
  have hz := hK.2.1
  have n1 := hR.1.2.1.2
  have n2 := hR.1.2.2.1.2
  have en : ∀ k, k ≠ 3 → k < 9426 ∨ 9582 ≤ k → nn R' k = nn R k := fun k a1 a2 => by unfold nn; rw [e k a1 a2]
  have r0 : s'.2.1 (z + b) = s.2.1 (z + b) := ((he.2.2 (z + b) (by omega)).2.2.2.2 (nix hwb.1 hwb.2 (by omega))).1
  refine ⟨?_, ?_, ?_, ht, ?_, ?_, ?_, ⟨h7.1, h7.2.1, hL, h7.2.2.2⟩⟩
  · rw [r0, e 0 (by omega) (by omega)]
    exact h0
  · rw [en 1 (by omega) (by omega)]
    exact tb_congr (tb_ix h1 hK hw hts.1 he (by omega)) (fun c' i' _ hi' => e _ (by omega) (by omega))
  · rw [en 2 (by omega) (by omega)]
    exact tb_congr (tb_ix h2 hK hw hts.2.1 he (by omega)) (fun c' i' _ _ => e _ (by omega) (by omega))
  · rw [en 4 (by omega) (by omega)]
    exact tb_congr (tb_ix h4 hK hw hts.2.2.2 he (by omega)) (fun c' i' _ hi' => vD_cg hR hi' (fun j hj => e j (by omega) (by omega)) (fun t k ht hk => e _ (by omega) (by omega)))
  · exact ce_cg hR.1 hR.2.1 (ce_ix h5 hK hwb.1 hwb.2 he (by omega)) (en 2 (by omega) (by omega)) (fun j j1 j2 => e j (by omega) (by omega))
  · rw [en 2 (by omega) (by omega)]
    exact h6
/-- the books with other DRIVES -/
theorem bk_D {b : Nat} {L' : Nat → Nat} (hR : WDn R) (hb : bck b) (hK : KS s.1 z) (hw : OWS ow z) (h : BK s.1 s.2 z ow b R q) (he : ES (IX z ow (b + 28) (b + 36)) s ow s' ow') (ht : TB s'.1 s'.2 z ow' (b + 28) 4 (nn R' 4) (vD R') L') (hL : ∀ c, c < 4 → L' c ≤ 4000) (e : ∀ k, k < 4 ∨ 9 ≤ k → k < 9582 → R' k = R k) : BK s'.1 s'.2 z ow' b R' (q.1, q.2.1, q.2.2.1, L', q.2.2.2.2) := by
  obtain ⟨h0, h1, h2, h3, h4, h5, h6, h7⟩ := h
  have hwb := bck_w hb hw
  have hts := bck_t hb
  have hz := hK.2.1
  have n1 := hR.1.2.1.2
  have n2 := hR.1.2.2.1.2
  have n3 := hR.1.2.2.2.1.2
  have en : ∀ k, k < 4 ∨ 9 ≤ k → k < 9582 → nn R' k = nn R k := fun k a1 a2 => by unfold nn; rw [e k a1 a2]
  have r0 : s'.2.1 (z + b) = s.2.1 (z + b) := ((he.2.2 (z + b) (by omega)).2.2.2.2 (nix hwb.1 hwb.2 (by omega))).1
  refine ⟨?_, ?_, ?_, ?_, ht, ?_, ?_, ⟨h7.1, h7.2.1, h7.2.2.1, hL, h7.2.2.2.2⟩⟩
  · rw [r0, e 0 (by omega) (by omega)]
    exact h0
  · rw [en 1 (by omega) (by omega)]
    exact tb_congr (tb_ix h1 hK hw hts.1 he (by omega)) (fun c' i' _ hi' => e _ (by omega) (by omega))
  · rw [en 2 (by omega) (by omega)]
    exact tb_congr (tb_ix h2 hK hw hts.2.1 he (by omega)) (fun c' i' _ _ => e _ (by omega) (by omega))
  · rw [en 3 (by omega) (by omega)]
    exact tb_congr (tb_ix h3 hK hw hts.2.2.1 he (by omega)) (fun c' i' _ hi' => vP_cg (by omega) (fun j j1 j2 => e j (by omega) (by omega)))
  · exact ce_cg hR.1 hR.2.1 (ce_ix h5 hK hwb.1 hwb.2 he (by omega)) (en 2 (by omega) (by omega)) (fun j j1 j2 => e j (by omega) (by omega))
  · rw [en 2 (by omega) (by omega)]
    exact h6
def gaR (R : Nat → Int32) (x w : Int32) : Nat → Int32 := va_up (va_up (va_up (va_up R (1366 + 3 * nn R 2) x) (1366 + 3 * nn R 2 + 1) w) (1366 + 3 * nn R 2 + 2) (-1)) 2 (nI (nn R 2 + 1))
theorem gaR_n {x w : Int32} {k : Nat} (h1 : k ≠ 2) (h2 : k < 1366 + 3 * nn R 2 ∨ 1366 + 3 * nn R 2 + 3 ≤ k) : gaR R x w k = R k := by
  unfold gaR
  rw [va_up_n (by omega), va_up_n (by omega), va_up_n (by omega), va_up_n (by omega)]
theorem gaR_nn {x w : Int32} (hN : WN R) : nn (gaR R x w) 2 = nn R 2 + 1 := by
  have n2 := hN.2.2.1.2
  unfold nn gaR
  rw [va_up_s]
  exact nI_clamp (by omega)
def sp_gauge (R : Nat → Int32) (x w : Int32) : Int32 × Option (Nat → Int32) := if x < 0 ∨ nI (nn R 0) ≤ x then (-2, none) else if nn R 2 = 20 then (-3, none) else (nI (nn R 2), some (gaR R x (if w = 0 then 0 else 1)))
theorem m_gauge {x w : Int32} (hNf : 15642 < N) (hK : KS sh z) (h : RI d z R K u) (hR : WF R) : Rn (f_X12_gauge N sh (z + 242) x w d) (RO z R K u (sp_gauge R x w) d) := by
  have hN := hR.1
  have n2 := hN.2.2.1
  unfold f_X12_gauge
  refine rn_t (ks_o hK 242 12 rfl) ?_
  refine rn_eq (ri_isCrossing hK h hN) ?_
  by_cases hb : x < 0 ∨ nI (nn R 0) ≤ x
  · rw [show sp_gauge R x w = _ from if_pos hb]
    refine rn_f (fun q => q (ite01.mpr hb)) ?_
    exact ro_refuses hK h rfl
  rw [show sp_gauge R x w = _ from if_neg hb]
  refine rn_t (fun q => hb (ite01.mp q)) ?_
  refine rdg hK h.1 2 rfl (by decide) ?_
  rw [n2.1]
  by_cases h6 : nn R 2 = 20
  · rw [if_pos h6]
    refine rn_f (fun q => q (by rw [h6]; rfl)) ?_
    exact ro_refuses hK h rfl
  rw [if_neg h6]
  refine rn_t (fun e => h6 (nI_inj (b := 20) e (by omega) (by decide))) ?_
  refine rn_bind (ri_keeps h hK hNf) (fun d1 hd => ?_)
  obtain ⟨x1, x2⟩ := hd
  have ha := ks_a hK 243 0 15642 rfl
  refine rdg hK x1.1 2 rfl (by decide) ?_
  rw [n2.1]
  refine rn_eq (m_ga hK) ?_
  refine r_gP hK 242 12 0 243 rfl (by decide) ?_
  refine rn_eq (q_sI ha (1366 + 3 * nn R 2) (ix_ga0 (nn R 2)) (by omega) (by decide)) ?_
  have y1 := ri_cellG (j := 1366 + 3 * nn R 2) (v := x) x1 hN (by omega) (fun s k _ q1 q2 => by omega)
  have w1 : WN (va_up R (1366 + 3 * nn R 2) x) := wn_up hN (by omega)
  refine r_gP hK 242 12 0 243 rfl (by decide) ?_
  have fin : ∀ o : Int32, Rn (f_X12_gauge_71 N sh (z + 242) ((1366 : Int32) + (3 : Int32) * nI (nn R 2)) (z + 243) ((1366 : Int32) + (3 : Int32) * nI (nn R 2) + 1) o _) (RO z R K u (nI (nn R 2), some (gaR R x o)) d) := fun o => by
    unfold f_X12_gauge_71
    refine rn_eq (q_sI ha (1366 + 3 * nn R 2 + 1) (ix_ga (nn R 2) 1) (by omega) (by decide)) ?_
    have y2 := ri_cellG (j := 1366 + 3 * nn R 2 + 1) (v := o) y1 w1 (by omega) (fun s k _ q1 q2 => by omega)
    have w2 : WN (va_up (va_up R (1366 + 3 * nn R 2) x) (1366 + 3 * nn R 2 + 1) o) := wn_up w1 (by omega)
    refine r_gP hK 242 12 0 243 rfl (by decide) ?_
    refine rn_eq (q_sI ha (1366 + 3 * nn R 2 + 2) (ix_ga (nn R 2) 2) (by omega) (by decide)) ?_
    have y3 := ri_cellG (j := 1366 + 3 * nn R 2 + 2) (v := -1) y2 w2 (by omega) (fun s k _ q1 q2 => by omega)
    have w3 : WN (va_up (va_up (va_up R (1366 + 3 * nn R 2) x) (1366 + 3 * nn R 2 + 1) o) (1366 + 3 * nn R 2 + 2) (-1)) := wn_up w2 (by omega)
    refine r_gP hK 242 12 0 243 rfl (by decide) ?_
    refine rn_eq (q_aT ha 2 rfl (by decide) (by decide)) ?_
    rw [y3.1 2 (by decide), va_up_n (by omega), va_up_n (by omega), va_up_n (by omega), n2.1, nI_1]
    refine rn_eq (q_sI ha 2 rfl (by decide) (by decide)) ?_
    have y4 := ri_cellG (j := 2) (v := nI (nn R 2 + 1)) y3 w3 (by omega) (fun s k _ q1 q2 => by omega)
    refine rdg hK y4.1 2 rfl (by decide) ?_
    rw [va_up_s, nI_pred]
    exact ro_done hK y4 (x2.tr ((MFR.wI (by decide) (by decide)).tr ((MFR.wI (by decide) (by decide)).tr ((MFR.wI (by decide) (by decide)).tr (MFR.wI (by decide) (by decide)))))) rfl
  refine rn_ite (fun h7 => ?_) (fun h7 => ?_)
  · rw [if_pos h7]
    exact fin 0
  · rw [if_neg h7]
    exact fin 1
theorem k_gauge {x w : Int32} (hNf : 30 ≤ N) (h : CI s z ow R K u y c) (hR : WF R) (hKF : WF K) : Rn (f_X11_gauge N z x w s) (KO z R K u c (sp_gauge R x w) s) := by
  have hK := h.1
  have hN := hR.1
  have n0 := hN.1.2
  have n2 := hN.2.2.1.2
  have ht4 : tck 15 3 = true := by decide
  have hB : BK s.1 s.2 z ow 3 R y.1 := h.2.2.1
  unfold f_X11_gauge
  refine rn_t (ks_o hK 0 11 rfl) ?_
  refine r_gP hK 0 11 1 3 rfl (by decide) ?_
  refine rn_eq (k_hasCrossing hK hB.1 hN) ?_
  by_cases hb : x < 0 ∨ nI (nn R 0) ≤ x
  · rw [show sp_gauge R x w = _ from if_pos hb]
    refine rn_f (fun q => q (ite01.mpr hb)) ?_
    refine rn_bind (k_refuse hK) (fun r hr => rn_some ?_)
    exact ko_lg h hr rfl
  rw [show sp_gauge R x w = _ from if_neg hb]
  refine rn_t (fun q => hb (ite01.mp q)) ?_
  refine r_gP hK 0 11 1 3 rfl (by decide) ?_
  refine r_gP hK 3 1 2 15 rfl (by decide) ?_
  refine r_gI hK (i := 15) (c := 8) rfl ?_
  rw [hB.2.2.1.1]
  by_cases h6 : nn R 2 = 20
  · rw [if_pos h6]
    refine rn_f (by rw [h6]; decide) ?_
    refine rn_bind (k_refuse hK) (fun r hr => rn_some ?_)
    exact ko_lg h hr rfl
  rw [if_neg h6]
  refine rn_t (nI_lt (b := 20) (by omega) (by decide)) ?_
  refine rn_bind (ci_change hNf h hR.1 hR.2.1 hKF.1) (fun s1 hs => ?_)
  obtain ⟨f1, g1, g2, g3, ow1, y1, -, c1⟩ := hs
  have hK1 := c1.1
  have hw1 := c1.2.1
  have hB1 : BK s1.1 s1.2 z ow1 3 R y1.1 := c1.2.2.1
  unfold f_X11_gauge_44
  refine r_gP hK1 0 11 1 3 rfl (by decide) ?_
  refine rn_bind (P := fun r => r.1 = nI (nn R 2) ∧ ∃ ow' q', ES (IX z ow1 3 39) s1 ow1 r.2 ow' ∧ BK r.2.1 r.2.2 z ow' 3 (gaR R x (if w = 0 then 0 else 1)) q' ∧ r.2.1.1.2.2 + 2 * pot y1.1 ≤ s1.1.1.2.2 + 2 * pot q' ∧ 4 * r.2.1.1.2.1 + pot y1.1 ≤ 4 * s1.1.1.2.1 + pot q') ?_ (fun r hr => ?_)
  · unfold f_X1_addGauge
    refine rn_t (ks_o hK1 3 1 rfl) ?_
    refine r_gP hK1 3 1 2 15 rfl (by decide) ?_
    refine rn_bind (tb_add (s := s1) (by omega) ht4 (by omega) hK1 hw1 hB1.2.2.1) (fun r hr => ?_)
    obtain ⟨r1, ow2, L2, e2, t2, l2, p1, p2⟩ := hr
    rw [r1]
    have e2 : ES (IX z ow1 15 16) s1 ow1 r.2 ow2 := e2.mono (fun a _ ha => tx_ix ht4 hw1 ha)
    have hK2 : KS r.2.1 z := KS.es hK1 e2
    have hw2 : OWS ow2 z := OWS.es hw1 hK1 e2
    have mo : ∀ {d1 d2 : Dt}, FD (TX z ow2 15) d1 d2 → FD (IX z ow2 15 16) d1 d2 := fun h => h.mono (fun a ha => tx_ix ht4 hw2 ha)
    unfold f_X1_addGauge_7
    refine r_gP hK2 3 1 2 15 rfl (by decide) ?_
    refine rn_bind (tb_put (o := 15) (nc := 3) (c := 0) hK2 hw2 ht4 t2 rfl (Nat.lt_succ_self _) rfl (by decide)) (fun d3 hd3 => ?_)
    refine r_gP hK2 3 1 2 15 rfl (by decide) ?_
    have fin : ∀ o : Int32, Rn (f_X1_addGauge_33 N (z + 3) (nI (nn R 2)) (z + 15) (nI (nn R 2)) (1 : Int32) o (r.2.1, d3)) (fun r => r.1 = nI (nn R 2) ∧ ∃ ow' q', ES (IX z ow1 3 39) s1 ow1 r.2 ow' ∧ BK r.2.1 r.2.2 z ow' 3 (gaR R x o) q' ∧ r.2.1.1.2.2 + 2 * pot y1.1 ≤ s1.1.1.2.2 + 2 * pot q' ∧ 4 * r.2.1.1.2.1 + pot y1.1 ≤ 4 * s1.1.1.2.1 + pot q') := fun o => by
      unfold f_X1_addGauge_33
      refine rn_bind (tb_put (o := 15) (nc := 3) (c := 1) hK2 hw2 ht4 hd3.1 rfl (Nat.lt_succ_self _) rfl (by decide)) (fun d5 hd5 => ?_)
      refine r_gP hK2 3 1 2 15 rfl (by decide) ?_
      refine rn_bind (tb_put (o := 15) (nc := 3) (c := 2) hK2 hw2 ht4 hd5.1 rfl (Nat.lt_succ_self _) rfl (by decide)) (fun d6 hd6 => ?_)
      have ee : ES (IX z ow1 15 16) s1 ow1 (r.2.1, d6) ow2 := es_fd e2 (((mo hd3.2).tr (mo hd5.2)).tr (mo hd6.2))
      have w3 := hw1 3 (by decide) (by decide)
      have hce : CE r.2.1 d6 z ow2 3 y1.1.2.2.2.2 (inC R) (vC R) := ce_ix (s := s1) (s' := (r.2.1, d6)) hB1.2.2.2.2.2.1 hK1 w3 (by decide) ee (by omega)
      refine rn_bind (widenCells (s := (r.2.1, d6)) (G := nn R 2 + 1) (Or.inl rfl) (by omega) hK2 hw2 hd6.1.1 hce hB1.2.2.2.2.2.2.2.2.2.2.2) (fun s3 hs3 => ?_)
      obtain ⟨ow3, Lc3, e3, ce3, b1, b2, b3, b4, b5⟩ := hs3
      unfold f_X1_addGauge_50
      have e3s : ES (IX z ow2 3 3) (r.2.1, d6) ow2 s3 ow3 := e3
      refine rn_some ⟨rfl, ow3, (y1.1.1, L2, y1.1.2.2.1, y1.1.2.2.2.1, Lc3), ?_, ?_, ?_, ?_⟩
      · have a1 : ES (IX z ow1 3 39) s1 ow1 (r.2.1, d6) ow2 := ee.mono (fun a _ ha => ix_mono ha (by omega) (by omega))
        exact a1.tr e3s (fun a ha hx => ix_mono (ix_old ee ha hx) (by omega) (by omega))
      · obtain ⟨v0, v1, v2, v3, v4, v5, v6, v7⟩ := hB1
        have en : ∀ k, k ≠ 2 → k < 1366 → nn (gaR R x o) k = nn R k := fun k a1 a2 => by unfold nn; rw [gaR_n a1 (by omega)]
        have t1 := tb_ix (tb_ix v1 hK1 hw1 (o := 4) (nc := 9) (by decide) ee (by omega)) hK2 hw2 (by decide) e3s (by omega)
        have t3 := tb_ix (tb_ix v3 hK1 hw1 (o := 20) (nc := 9) (by decide) ee (by omega)) hK2 hw2 (by decide) e3s (by omega)
        have t4 := tb_ix (tb_ix v4 hK1 hw1 (o := 31) (nc := 4) (by decide) ee (by omega)) hK2 hw2 (by decide) e3s (by omega)
        have tg := tb_ix (s := (r.2.1, d6)) hd6.1 hK2 hw2 ht4 e3s (by omega)
        have n1 := hN.2.1.2
        have n3 := hN.2.2.2.1.2
        refine ⟨?_, ?_, ?_, ?_, ?_, ?_, ?_, ⟨v7.1, fun c9 hc9 => ?_, v7.2.2.1, v7.2.2.2.1, b2⟩⟩
        · rw [b5, gaR_n (by omega) (by omega)]
          rw [((ee.2.2 (z + 3) (by have := hK1.2.1; omega)).2.2.2.2 (nix w3 (by decide) (by omega))).1]
          exact v0
        · rw [en 1 (by omega) (by omega)]
          exact tb_congr t1 (fun c' i' _ hi' => gaR_n (by omega) (by omega))
        · rw [gaR_nn hN]
          refine tb_congr tg (fun c' i' hc' hi' => ?_)
          show gaR R x o (1366 + 3 * i' + c') = _
          by_cases ei : i' = nn R 2
          · subst ei
            rcases (show c' = 0 ∨ c' = 1 ∨ c' = 2 by omega) with rfl | rfl | rfl
            · unfold gaR
              rw [va_up_n (by omega), va_up_n (by omega), va_up_n (by omega), show va_up R (1366 + 3 * nn R 2) x (1366 + 3 * nn R 2 + 0) = x from va_up_s]
              simp
            · unfold gaR
              rw [va_up_n (by omega), va_up_n (by omega), va_up_s]
              simp
            · unfold gaR
              rw [va_up_n (by omega), va_up_s]
              simp
          · rw [gaR_n (by omega) (by omega)]
            simp [ei]
            rfl
        · rw [en 3 (by omega) (by omega)]
          exact tb_congr t3 (fun c' i' _ hi' => vP_cg (by omega) (fun j j1 j2 => gaR_n (by omega) (by omega)))
        · rw [en 4 (by omega) (by omega)]
          exact tb_congr t4 (fun c' i' _ hi' => vD_cg (wdn_of hR) hi' (fun j hj => gaR_n (by omega) (by omega)) (fun t k ht hk => gaR_n (by omega) (by omega)))
        · obtain ⟨a, z1, z2, z3, z4, z5, z6⟩ := ce3
          refine ⟨a, z1, z2, z3, z4, z5, fun k hk => ?_⟩
          have hk2 : inC R k := by
            obtain ⟨g, hh, q1, q2, q3⟩ := hk
            rw [gaR_nn hN] at q1
            by_cases eg : g = nn R 2
            · subst eg
              have : nn (gaR R x o) (1366 + 3 * nn R 2 + 2) = 0 := nn_m1 (by unfold gaR; rw [va_up_n (by omega), va_up_s])
              omega
            · have : nn (gaR R x o) (1366 + 3 * g + 2) = nn R (1366 + 3 * g + 2) := by unfold nn; rw [gaR_n (by omega) (by omega)]
              rw [this] at q2
              exact ⟨g, hh, by omega, q2, q3⟩
          have r9 := z6 k hk2
          refine ⟨r9.1, r9.2.trans ?_⟩
          unfold vC
          rw [gaR_n (by omega) (by omega), gaR_n (by omega) (by omega)]
        · rw [gaR_nn hN]
          exact b1
        · have := l2 c9 hc9
          have := v7.2.1 c9 hc9
          show L2 c9 ≤ 40
          omega
      · unfold pot
        show s3.1.1.2.2 + 2 * (smN y1.1.1 9 + smN y1.1.2.1 3 + smN y1.1.2.2.1 9 + smN y1.1.2.2.2.1 4 + y1.1.2.2.2.2) ≤ s1.1.1.2.2 + 2 * (smN y1.1.1 9 + smN L2 3 + smN y1.1.2.2.1 9 + smN y1.1.2.2.2.1 4 + Lc3)
        have b3 : s3.1.1.2.2 + 2 * y1.1.2.2.2.2 ≤ r.2.1.1.2.2 + 2 * Lc3 := b3
        omega
      · unfold pot
        show 4 * s3.1.1.2.1 + (smN y1.1.1 9 + smN y1.1.2.1 3 + smN y1.1.2.2.1 9 + smN y1.1.2.2.2.1 4 + y1.1.2.2.2.2) ≤ 4 * s1.1.1.2.1 + (smN y1.1.1 9 + smN L2 3 + smN y1.1.2.2.1 9 + smN y1.1.2.2.2.1 4 + Lc3)
        have b4 : 4 * s3.1.1.2.1 + y1.1.2.2.2.2 ≤ 4 * r.2.1.1.2.1 + Lc3 := b4
        omega
    refine rn_ite (fun h8 => ?_) (fun h8 => ?_)
    · rw [if_pos h8]
      exact fin 0
    · rw [if_neg h8]
      exact fin 1
  · obtain ⟨r1, ow2, q2, e2, bk2, m1, m2⟩ := hr
    have hK2 : KS r.2.1 z := KS.es hK1 e2
    unfold f_X11_gauge_54
    rw [r1]
    refine rn_bind (k_answer hK2) (fun r9 hr9 => rn_some ?_)
    have qn := ci_new2 c1 g1 g2 g3 e2 bk2 (pb_congr c1.2.2.2.2.2.1 (gaR_n (by omega) (by omega)) (fun j hj => gaR_n (by omega) (by omega))) m1 m2
    have q3 := ci_lg qn.1 hr9.2
    exact ⟨hr9.1, (f1.tr qn.2).tr q3.2, ow2, _, q3.1⟩
end GN
/-! 9a.fp.lean.txt -/
theorem fa_lt (a b : Int32) : a < b ↔ a.toInt < b.toInt := Int32.lt_iff_toInt_lt
theorem fa_le (a b : Int32) : a ≤ b ↔ a.toInt ≤ b.toInt := Int32.le_iff_toInt_le
theorem fa_eq (a b : Int32) : a = b ↔ a.toInt = b.toInt := Int32.toInt_inj.symm
/-! the whole part of a melt: both sides' remainders are one float -/
theorem ff_lead {n : Nat} (h1 : 1 ≤ n) (h2 : n < 2 ^ 33) : 0 ≤ FP.Core.leading n 1 ∧ FP.Core.leading n 1 ≤ 32 ∧ (2 ^ 24 ≤ n → 24 ≤ FP.Core.leading n 1) ∧ (n < 2 ^ 31 → FP.Core.leading n 1 ≤ 30) := by
  obtain ⟨ha, hb⟩ := FP.Core.leading_spec (A := n) (B := 1) (by omega) (by decide)
  generalize FP.Core.leading n 1 = k at ha hb
  unfold FP.Core.Below at ha hb
  rw [Nat.one_mul] at ha hb
  have ha := Nat.not_lt.mp ha
  refine ⟨?_, ?_, ?_, ?_⟩
  · apply Int.not_lt.mp
    intro hk
    have e1 : (k + 1).toNat = 0 := by omega
    rw [e1, Nat.pow_zero] at hb
    have hp := Nat.two_pow_pos (-(k + 1)).toNat
    have := Nat.mul_pos (show 0 < n by omega) hp
    omega
  · apply Int.not_lt.mp
    intro hk
    have e1 : (-k).toNat = 0 := by omega
    rw [e1, Nat.pow_zero, Nat.mul_one] at ha
    have := Nat.pow_le_pow_right (show 0 < 2 by decide) (show 33 ≤ k.toNat by omega)
    omega
  · intro hn
    apply Int.not_lt.mp
    intro hk
    by_cases h0 : 0 ≤ k + 1
    · have e1 : (-(k + 1)).toNat = 0 := by omega
      rw [e1, Nat.pow_zero, Nat.mul_one] at hb
      have := Nat.pow_le_pow_right (show 0 < 2 by decide) (show (k + 1).toNat ≤ 24 by omega)
      omega
    · have e1 : (k + 1).toNat = 0 := by omega
      rw [e1, Nat.pow_zero] at hb
      have := Nat.mul_pos (show 0 < n by omega) (Nat.two_pow_pos (-(k + 1)).toNat)
      omega
  · intro hn
    apply Int.not_lt.mp
    intro hk
    have e1 : (-k).toNat = 0 := by omega
    rw [e1, Nat.pow_zero, Nat.mul_one] at ha
    have := Nat.pow_le_pow_right (show 0 < 2 by decide) (show 31 ≤ k.toNat by omega)
    omega
theorem ff_norm {n : Nat} (h1 : 1 ≤ n) (h2 : n < 2 ^ 33) : ∃ (c : Nat) (q : Int), FP.Core.roundRatio FP.Core.b32 false n 1 0 = .fin false c q ∧ 2 ^ 23 ≤ c ∧ c < 2 ^ 24 ∧ -23 ≤ q ∧ q ≤ 10 ∧ (2 ^ 24 ≤ n → 0 ≤ q) ∧ (n < 2 ^ 31 → q ≤ 8) := by
  obtain ⟨l0, l1, l2, l3⟩ := ff_lead h1 h2
  have hfit := FP.Core.roundRatio_fits FP.Core.good_b32 false n (B := 1) (by decide) 0
  have hle := FP.Core.nearest_units_le (f := FP.Core.b32) (A := n) (B := 1) (by omega) (by decide) 0
  have hqm : FP.Core.b32.qmin = -149 := by decide
  have hqM : FP.Core.b32.qmax = 104 := by decide
  have hp : FP.Core.b32.p = 24 := rfl
  have htl : FP.Core.b32.tails = 2 ^ 23 := rfl
  have hQ : FP.Core.quantum FP.Core.b32 n 1 0 = FP.Core.leading n 1 - 23 := by
    unfold FP.Core.quantum
    rw [hqm, hp]
    omega
  have hr : FP.Core.roundRatio FP.Core.b32 false n 1 0 = FP.Core.settle FP.Core.b32 false (FP.Core.nearest (FP.Core.unitsNum n 0 (FP.Core.quantum FP.Core.b32 n 1 0)) (FP.Core.unitsDen 1 0 (FP.Core.quantum FP.Core.b32 n 1 0))) (FP.Core.quantum FP.Core.b32 n 1 0) := by
    unfold FP.Core.roundRatio
    rw [if_neg (by omega)]
    rfl
  rw [hQ] at hr hle
  generalize FP.Core.nearest (FP.Core.unitsNum n 0 (FP.Core.leading n 1 - 23)) (FP.Core.unitsDen 1 0 (FP.Core.leading n 1 - 23)) = c0 at hr hle
  generalize FP.Core.leading n 1 = k at *
  unfold FP.Core.settle FP.Core.bound at hr
  rw [hp] at hr hle
  by_cases hc : c0 < 2 ^ 24
  · rw [if_pos hc, if_pos (by omega)] at hr
    rw [hr] at hfit
    obtain ⟨f1, f2, f3, f4⟩ := hfit
    refine ⟨c0, k - 23, hr, ?_, hc, by omega, by omega, fun h => by have := l2 h; omega, fun h => by have := l3 h; omega⟩
    rcases f4 with f4 | f4
    · omega
    · rw [htl] at f4; exact f4
  · rw [if_neg hc, if_pos (by omega)] at hr
    exact ⟨_, _, hr, by rw [htl]; exact Nat.le_refl _, by rw [htl]; decide, by omega, by omega, fun h => by have := l2 h; omega, fun h => by have := l3 h; omega⟩
theorem ff_n32 {r : UInt32} (h : FP.Core.val32 r ≠ .nan) : vf_n32 r := by
  unfold vf_n32
  rw [UInt32.le_iff_toNat_le, FP.Core.mask_toNat32]
  exact (FP.Core.ne_nan32 r).mp h
theorem ff_pw (a b : Nat) : 2 ^ a * 2 ^ b = 2 ^ (a + b) := (Nat.pow_add 2 a b).symm
/-- u * 2^k, u of 24 digits, is held as it is -/
theorem ff_exact {u k : Nat} (hu0 : 1 ≤ u) (hu : u ≤ 2 ^ 24) (hk : k ≤ 8) : ∃ (c : Nat) (q : Int), FP.Core.roundRatio FP.Core.b32 false (u * 2 ^ k) 1 0 = .fin false c q ∧ c * 2 ^ (q + 149).toNat = u * 2 ^ k * 2 ^ 149 := by
  obtain ⟨c, q, hf, hv⟩ := FP.Core.natFit FP.Core.good_b32 FP.Core.wide_b32 false (n := u) hu
  have hqm : FP.Core.b32.qmin = -149 := by decide
  have hqM : FP.Core.b32.qmax = 104 := by decide
  have hp : FP.Core.b32.p = 24 := rfl
  have htl : FP.Core.b32.tails = 2 ^ 23 := rfl
  obtain ⟨f1, f2, f3, f4⟩ := hf
  rw [hp] at f1
  rw [hqm] at f2 f4
  rw [hqM] at f3
  rw [htl] at f4
  rw [Nat.mul_one] at hv
  have hq1 : q ≠ -149 := by
    intro e
    rw [e] at hv
    have e1 : (0 - (-149 : Int)).toNat = 149 := by decide
    have e2 : ((-149 : Int) - 0).toNat = 0 := by decide
    rw [e1, e2, Nat.pow_zero, Nat.mul_one] at hv
    have h9 : 1 * 2 ^ 149 ≤ u * 2 ^ 149 := Nat.mul_le_mul_right _ hu0
    have h8 : (2 : Nat) ^ 24 ≤ 1 * 2 ^ 149 := by decide
    omega
  have hct : 2 ^ 23 ≤ c := by rcases f4 with f4 | f4 <;> omega
  have hq2 : q ≤ 1 := by
    apply Int.not_lt.mp
    intro h
    have e1 : (0 - q).toNat = 0 := by omega
    rw [e1, Nat.pow_zero, Nat.mul_one] at hv
    have h9 := Nat.pow_le_pow_right (show 0 < 2 by decide) (show 2 ≤ (q - 0).toNat by omega)
    have h8 : 2 ^ 23 * 2 ^ 2 ≤ c * 2 ^ (q - 0).toNat := Nat.mul_le_mul hct h9
    omega
  have key : u * 2 ^ k * 2 ^ (0 - (q + k)).toNat = c * 1 * 2 ^ ((q + k) - 0).toNat ∧ c * 2 ^ (q + k + 149).toNat = u * 2 ^ k * 2 ^ 149 := by
    by_cases h0 : 0 ≤ q
    · have e1 : (0 - q).toNat = 0 := by omega
      have e3 : (0 - (q + k)).toNat = 0 := by omega
      have e4 : ((q + k) - 0).toNat = (q - 0).toNat + k := by omega
      have e5 : (q + k + 149).toNat = (q - 0).toNat + k + 149 := by omega
      rw [e1, Nat.pow_zero, Nat.mul_one] at hv
      rw [e3, e4, e5, hv, Nat.pow_zero, Nat.mul_one, Nat.mul_one, Nat.pow_add, Nat.pow_add, Nat.pow_add]
      refine ⟨by rw [Nat.mul_assoc], ?_⟩
      rw [Nat.mul_assoc, Nat.mul_assoc, Nat.mul_assoc]
    · have e2 : (q - 0).toNat = 0 := by omega
      rw [e2, Nat.pow_zero, Nat.mul_one] at hv
      obtain ⟨j, hj⟩ : ∃ j : Nat, (0 - q).toNat = j := ⟨_, rfl⟩
      rw [hj] at hv
      have hj0 : q = -(j : Int) := by omega
      have hj1 : j ≤ 148 := by omega
      subst hj0
      rw [← hv]
      have e5 : (-(j : Int) + k + 149).toNat = k + 149 - j := by omega
      rw [e5]
      refine ⟨?_, ?_⟩
      · by_cases hkj : j ≤ k
        · have e6 : (0 - (-(j : Int) + k)).toNat = 0 := by omega
          have e7 : ((-(j : Int) + k) - 0).toNat = k - j := by omega
          rw [e6, e7, Nat.pow_zero, Nat.mul_one, Nat.mul_one, Nat.mul_assoc, ff_pw]
          congr 2
          omega
        · have e6 : (0 - (-(j : Int) + k)).toNat = j - k := by omega
          have e7 : ((-(j : Int) + k) - 0).toNat = 0 := by omega
          rw [e6, e7, Nat.pow_zero, Nat.mul_one, Nat.mul_one, Nat.mul_assoc, ff_pw]
          congr 2
          omega
      · rw [Nat.mul_assoc, ff_pw, Nat.mul_assoc, ff_pw]
        congr 2
        omega
  refine ⟨c, q + k, FP.Core.roundRatio_exact FP.Core.good_b32 (by decide) ⟨by rw [hp]; exact f1, by rw [hqm]; omega, by rw [hqM]; omega, Or.inr (by rw [htl]; exact hct)⟩ key.1, key.2⟩
/-- the digits of a whole number that a float holds -/
def ff_U (T : Nat) : Prop := ∃ u k : Nat, T = u * 2 ^ k ∧ u ≤ 2 ^ 24 ∧ k ≤ 8 ∧ (0 < k → 2 ^ 23 ≤ u ∧ u < 2 ^ 24)
theorem ff_mod {T S : Nat} (hT : ff_U T) (hS : ff_U S) (hS0 : 1 ≤ S) : T % S = 0 ∨ ∃ u k : Nat, T % S = u * 2 ^ k ∧ 1 ≤ u ∧ u ≤ 2 ^ 24 ∧ k ≤ 8 := by
  obtain ⟨u1, k1, rfl, a1, a2, a3⟩ := hT
  obtain ⟨u2, k2, rfl, b1, b2, b3⟩ := hS
  by_cases hz : u1 * 2 ^ k1 % (u2 * 2 ^ k2) = 0
  · exact Or.inl hz
  right
  by_cases hlt : u1 * 2 ^ k1 < u2 * 2 ^ k2
  · rw [Nat.mod_eq_of_lt hlt] at hz ⊢
    have h0 : u1 ≠ 0 := fun e => hz (by rw [e, Nat.zero_mul])
    exact ⟨u1, k1, rfl, by omega, a1, a2⟩
  · have hlt := Nat.not_lt.mp hlt
    by_cases hk : k2 = 0
    · subst hk
      rw [Nat.pow_zero, Nat.mul_one] at *
      have := Nat.mod_lt (u1 * 2 ^ k1) (show 0 < u2 by omega)
      exact ⟨u1 * 2 ^ k1 % u2, 0, by rw [Nat.pow_zero, Nat.mul_one], by omega, by omega, by omega⟩
    · obtain ⟨c1, c2⟩ := b3 (by omega)
      have hk12 : k2 ≤ k1 := by
        apply Nat.not_lt.mp
        intro h
        have h1 : u1 * 2 ^ k1 ≤ 2 ^ 24 * 2 ^ k1 := Nat.mul_le_mul_right _ a1
        have h2 : 2 ^ 23 * 2 ^ k2 ≤ u2 * 2 ^ k2 := Nat.mul_le_mul_right _ c1
        have h3 : (2 : Nat) ^ 24 * 2 ^ k1 ≤ 2 ^ 23 * 2 ^ k2 := by
          rw [ff_pw, ff_pw]
          exact Nat.pow_le_pow_right (by decide) (by omega)
        by_cases h4 : 0 < k1
        · have h5 : u1 * 2 ^ k1 < 2 ^ 24 * 2 ^ k1 := Nat.mul_lt_mul_of_pos_right (a3 h4).2 (Nat.two_pow_pos _)
          omega
        · have h6 : k1 = 0 := by omega
          have h7 : k2 = 1 ∨ 2 ≤ k2 := by omega
          rcases h7 with h7 | h7
          · -- both sides are 2^24
            have h8 : u1 * 2 ^ k1 = u2 * 2 ^ k2 := Nat.le_antisymm (Nat.le_trans h1 (Nat.le_trans h3 h2)) hlt
            exact hz (by rw [h8]; exact Nat.mod_self _)
          · have h8 : (2 : Nat) ^ 24 * 2 ^ k1 < 2 ^ 23 * 2 ^ k2 := by
              rw [ff_pw, ff_pw]
              exact Nat.pow_lt_pow_right (by decide) (by omega)
            omega
      have e1 : u1 * 2 ^ k1 = (u1 * 2 ^ (k1 - k2)) * 2 ^ k2 := by
        rw [Nat.mul_assoc, ff_pw]
        congr 2
        omega
      have e2 : u1 * 2 ^ k1 % (u2 * 2 ^ k2) = (u1 * 2 ^ (k1 - k2)) % u2 * 2 ^ k2 := by
        rw [e1, Nat.mul_mod_mul_right]
      have := Nat.mod_lt (u1 * 2 ^ (k1 - k2)) (show 0 < u2 by omega)
      refine ⟨(u1 * 2 ^ (k1 - k2)) % u2, k2, e2, ?_, by omega, b2⟩
      apply Nat.not_lt.mp
      intro h
      have h0 : (u1 * 2 ^ (k1 - k2)) % u2 = 0 := by omega
      exact hz (by rw [e2, h0, Nat.zero_mul])
theorem ff_l2f {n : Int64} (h0 : 0 ≤ n.toInt) : FP.Core.val32 (FP.l2f n) = FP.Core.roundRatio FP.Core.b32 false n.toInt.toNat 1 0 := by
  show FP.Core.val32 (FP.Core.l2f n) = _
  rw [FP.Core.val32_l2f]
  show FP.Core.roundRatio FP.Core.b32 (decide (n.toInt < 0)) n.toInt.natAbs 1 0 = _
  rw [decide_eq_false (by omega), show n.toInt.natAbs = n.toInt.toNat by omega]
/-- a whole number as a float: its digits, and the whole number that it is then -/
theorem ff_int {n : Int64} (h0 : 1 ≤ n.toInt) (h1 : n.toInt < 2 ^ 31) : ∃ (c : Nat) (q : Int) (T : Nat), FP.Core.val32 (FP.l2f n) = .fin false c q ∧ 2 ^ 23 ≤ c ∧ c < 2 ^ 24 ∧ -23 ≤ q ∧ q ≤ 8 ∧ c * 2 ^ (q + 149).toNat = T * 2 ^ 149 ∧ 1 ≤ T ∧ T < 2 ^ 33 ∧ ff_U T := by
  have hv := ff_l2f (n := n) (by omega)
  obtain ⟨c, q, e, c1, c2, q1, -, hbig, q2⟩ := ff_norm (n := n.toInt.toNat) (by omega) (by omega)
  have q2 := q2 (by omega)
  rw [e] at hv
  by_cases hs : n.toInt.toNat ≤ 2 ^ 24
  · obtain ⟨c', q', e', hz⟩ := ff_exact (u := n.toInt.toNat) (k := 0) (by omega) hs (by decide)
    rw [Nat.pow_zero, Nat.mul_one] at e' hz
    rw [e] at e'
    cases e'
    exact ⟨c, q, n.toInt.toNat, hv, c1, c2, q1, q2, hz, by omega, by omega, n.toInt.toNat, 0, by rw [Nat.pow_zero, Nat.mul_one], hs, by decide, fun h => absurd h (by decide)⟩
  · have hq := hbig (by omega)
    have e1 : (q + 149).toNat = q.toNat + 149 := by omega
    have hq8 : q.toNat ≤ 8 := by omega
    have hp := Nat.pow_le_pow_right (show 0 < 2 by decide) hq8
    have hp0 := Nat.two_pow_pos q.toNat
    have hc8 : c * 2 ^ q.toNat ≤ c * 2 ^ 8 := Nat.mul_le_mul_left _ hp
    have hc0 : 0 < c * 2 ^ q.toNat := Nat.mul_pos (by omega) hp0
    exact ⟨c, q, c * 2 ^ q.toNat, hv, c1, c2, q1, q2, by rw [e1, Nat.pow_add, Nat.mul_assoc], by omega, by omega, c, q.toNat, rfl, by omega, hq8, fun _ => ⟨c1, c2⟩⟩
theorem ff_8 : FP.Core.val32 1090519040 = .fin false (2 ^ 23) (-20) := by decide +kernel
/-- a float divided by 8 -/
theorem ff_div8 {x : UInt32} {c : Nat} {q : Int} (hx : FP.Core.val32 x = .fin false c q) (c1 : 2 ^ 23 ≤ c) (c2 : c < 2 ^ 24) (q1 : -23 ≤ q) (q2 : q ≤ 10) : FP.Core.val32 (FP.fdiv x 1090519040) = .fin false c (q - 3) := by
  show FP.Core.val32 (FP.Core.fdiv x 1090519040) = _
  rw [FP.Core.val32_fdiv, hx, ff_8]
  show FP.Core.roundRatio FP.Core.b32 (false != false) c (2 ^ 23) (q - (-20)) = _
  have hqm : FP.Core.b32.qmin = -149 := by decide
  have hqM : FP.Core.b32.qmax = 104 := by decide
  have hp : FP.Core.b32.p = 24 := rfl
  have htl : FP.Core.b32.tails = 2 ^ 23 := rfl
  refine FP.Core.roundRatio_exact FP.Core.good_b32 (by decide) ⟨by rw [hp]; exact c2, by rw [hqm]; omega, by rw [hqM]; omega, Or.inr (by rw [htl]; exact c1)⟩ ?_
  have e1 : (q - -20 - (q - 3)).toNat = 23 := by omega
  have e2 : (q - 3 - (q - -20)).toNat = 0 := by omega
  rw [e1, e2, Nat.pow_zero, Nat.mul_one]
theorem ff_i2f (t : Int32) : FP.i2f t = FP.l2f t.toInt64 := FP.Core.i2f_l2f t
theorem ff_z {c : Nat} {q : Int} (q1 : -26 ≤ q) : FP.Core.zmag FP.Core.b32 (.fin false c q) = c * 2 ^ (q + 149).toNat := by
  show c * 2 ^ (q - FP.Core.b32.qmin).toNat = _
  rw [show FP.Core.b32.qmin = -149 by decide]
  congr 2
/-- t as a float, t divided by 8: its magnitude, and the whole number that t is as a float -/
theorem ff_t {t : Int32} (ht : ¬ t < 0) : ∃ T : Nat, T < 2 ^ 33 ∧ ff_U T ∧ (FP.f2l (FP.i2f t)).toInt = T ∧ (¬ t = 0 → 1 ≤ T) ∧ FP.Core.val32 (FP.fdiv (FP.i2f t) 1090519040) ≠ .nan ∧ FP.Core.FFin (FP.fdiv (FP.i2f t) 1090519040) ∧ FP.Core.sgn (FP.Core.val32 (FP.fdiv (FP.i2f t) 1090519040)) = false ∧ FP.Core.zmag FP.Core.b32 (FP.Core.val32 (FP.fdiv (FP.i2f t) 1090519040)) = T * 2 ^ 146 := by
  have h0 : 0 ≤ t.toInt := by
    rw [fa_lt] at ht
    have : (0 : Int32).toInt = 0 := by decide
    omega
  have h1 : t.toInt < 2 ^ 31 := t.toInt_lt
  by_cases hz : t = 0
  · subst hz
    have e1 : FP.fdiv (FP.i2f 0) 1090519040 = 0 := by decide +kernel
    have e2 : FP.Core.val32 0 = .fin false 0 (-149) := by decide +kernel
    refine ⟨0, by decide, ⟨0, 0, rfl, by decide, by decide, fun h => absurd h (by decide)⟩, by decide +kernel, fun h => absurd rfl h, ?_⟩
    rw [e1, e2]
    refine ⟨FP.Core.Datum.noConfusion, ?_, rfl, by decide +kernel⟩
    exact ⟨false, 0, -149, e2⟩
  · have hp : 1 ≤ t.toInt64.toInt := by
      rw [Int32.toInt_toInt64]
      have hne : t.toInt ≠ 0 := fun h => hz (by rw [fa_eq, h]; decide)
      omega
    obtain ⟨c, q, T, hv, c1, c2, q1, q2, hm, T1, T2, hU⟩ := ff_int (n := t.toInt64) hp (by rw [Int32.toInt_toInt64]; exact h1)
    rw [← ff_i2f] at hv
    have hd := ff_div8 hv c1 c2 q1 (by omega)
    have hz0 := ff_z (c := c) (q := q) (by omega)
    have hz3 := ff_z (c := c) (q := q - 3) (by omega)
    have hm3 : c * 2 ^ (q - 3 + 149).toNat = T * 2 ^ 146 := by
      have e1 : (q + 149).toNat = (q - 3 + 149).toNat + 3 := by omega
      rw [e1, Nat.pow_add, ← Nat.mul_assoc] at hm
      have e2 : T * 2 ^ 149 = T * 2 ^ 146 * 2 ^ 3 := by rw [Nat.mul_assoc, ff_pw]
      rw [e2] at hm
      exact Nat.eq_of_mul_eq_mul_right (by decide) hm
    refine ⟨T, T2, hU, ?_, fun _ => T1, ?_⟩
    · show (FP.Core.f2l (FP.i2f t)).toInt = _
      rw [FP.Core.f2l_val (by rw [hv]; exact FP.Core.Datum.noConfusion), hv, hz0, hm]
      show max _ (min _ ((T * 2 ^ 149 / FP.Core.one32 : Nat) : Int)) = _
      rw [show FP.Core.one32 = 2 ^ 149 from rfl, Nat.mul_div_cancel _ (Nat.two_pow_pos _)]
      omega
    · rw [hd, hz3, hm3]
      exact ⟨FP.Core.Datum.noConfusion, ⟨false, c, q - 3, hd⟩, rfl, rfl⟩
/-- the rest of a division by 8 -/
theorem ff_r {n : Int64} {R : Nat} (hn : n.toInt = R) (hR : R = 0 ∨ ∃ u k : Nat, R = u * 2 ^ k ∧ 1 ≤ u ∧ u ≤ 2 ^ 24 ∧ k ≤ 8) (hR2 : R < 2 ^ 33) : FP.Core.val32 (FP.fdiv (FP.l2f n) 1090519040) ≠ .nan ∧ FP.Core.sgn (FP.Core.val32 (FP.fdiv (FP.l2f n) 1090519040)) = false ∧ FP.Core.zmag FP.Core.b32 (FP.Core.val32 (FP.fdiv (FP.l2f n) 1090519040)) = R * 2 ^ 146 := by
  rcases hR with rfl | ⟨u, k, rfl, u1, u2, hk⟩
  · have e0 : n = 0 := Int64.toInt_inj.mp (by rw [hn]; decide)
    subst e0
    have e1 : FP.fdiv (FP.l2f 0) 1090519040 = 0 := by decide +kernel
    have e2 : FP.Core.val32 0 = .fin false 0 (-149) := by decide +kernel
    rw [e1, e2]
    exact ⟨FP.Core.Datum.noConfusion, rfl, by decide +kernel⟩
  · have hpos : 1 ≤ u * 2 ^ k := Nat.mul_pos u1 (Nat.two_pow_pos k)
    have hv := ff_l2f (n := n) (by omega)
    rw [hn, Int.toNat_natCast] at hv
    obtain ⟨c, q, e, c1, c2, q1, q2, -, -⟩ := ff_norm (n := u * 2 ^ k) hpos hR2
    obtain ⟨c', q', e', hm⟩ := ff_exact u1 u2 hk
    rw [e] at e'
    cases e'
    rw [e] at hv
    have hd := ff_div8 hv c1 c2 q1 q2
    have hz3 := ff_z (c := c) (q := q - 3) (by omega)
    have hm3 : c * 2 ^ (q - 3 + 149).toNat = u * 2 ^ k * 2 ^ 146 := by
      have e1 : (q + 149).toNat = (q - 3 + 149).toNat + 3 := by omega
      rw [e1, Nat.pow_add, ← Nat.mul_assoc] at hm
      have e2 : u * 2 ^ k * 2 ^ 149 = u * 2 ^ k * 2 ^ 146 * 2 ^ 3 := by rw [Nat.mul_assoc (u * 2 ^ k), ff_pw]
      rw [e2] at hm
      exact Nat.eq_of_mul_eq_mul_right (by decide) hm
    rw [hd, hz3, hm3]
    exact ⟨FP.Core.Datum.noConfusion, rfl, rfl⟩
/-- two floats of one sign and magnitude are one -/
theorem ff_one {x y : UInt32} (hx : FP.Core.val32 x ≠ .nan) (hy : FP.Core.val32 y ≠ .nan) (hs : FP.Core.sgn (FP.Core.val32 x) = FP.Core.sgn (FP.Core.val32 y)) (hz : FP.Core.zmag FP.Core.b32 (FP.Core.val32 x) = FP.Core.zmag FP.Core.b32 (FP.Core.val32 y)) : x = y := by
  have hv : FP.Core.zval FP.Core.b32 (FP.Core.val32 x) = FP.Core.zval FP.Core.b32 (FP.Core.val32 y) := by
    unfold FP.Core.zval
    rw [hs, hz]
  by_cases h0 : FP.Core.zval FP.Core.b32 (FP.Core.val32 y) = 0
  · have h1 := (FP.Core.zval_eq_zero32 hy).mp h0
    have h2 := (FP.Core.zval_eq_zero32 hx).mp (by rw [hv]; exact h0)
    have h3 := FP.Core.sgn_bits32 hx
    have h4 := FP.Core.sgn_bits32 hy
    rw [hs, h4] at h3
    have h5 : (2 ^ 31 ≤ y.toNat) ↔ (2 ^ 31 ≤ x.toNat) := decide_eq_decide.mp h3
    have l1 := x.toNat_lt
    have l2 := y.toNat_lt
    exact UInt32.toNat_inj.mp (by omega)
  · refine FP.Core.eq_bits32 (FP.Core.fnot_zero hy h0) ?_
    rw [FP.Core.fcmp_zval hx hy, hv]
    simp
theorem ff_sub {x y : UInt32} (hx : FP.Core.FFin x) (hy : FP.Core.FFin y) : FP.Core.val32 (FP.fsub x y) ≠ .nan := by
  obtain ⟨s, c, q, hx⟩ := hx
  obtain ⟨t, d, r, hy⟩ := hy
  show FP.Core.val32 (FP.Core.fsub x y) ≠ .nan
  rw [FP.Core.val32_fsub, hx, hy]
  show FP.Core.roundRatio _ _ _ _ _ ≠ _
  unfold FP.Core.roundRatio FP.Core.roundAt FP.Core.settle FP.Core.bound
  repeat' split
  all_goals exact FP.Core.Datum.noConfusion
theorem ff_div {x y : UInt32} (hx : FP.Core.val32 x ≠ .nan) {c : Nat} {q : Int} (hy : FP.Core.val32 y = .fin false c q) (hc : c ≠ 0) : FP.Core.val32 (FP.fdiv x y) ≠ .nan := by
  show FP.Core.val32 (FP.Core.fdiv x y) ≠ .nan
  rw [FP.Core.val32_fdiv, hy]
  cases hv : FP.Core.val32 x with
  | nan => exact absurd hv hx
  | inf s => exact FP.Core.Datum.noConfusion
  | fin s d r =>
    unfold FP.Core.quotient
    simp only
    rw [if_neg hc]
    unfold FP.Core.roundRatio FP.Core.roundAt FP.Core.settle FP.Core.bound
    repeat' split
    all_goals exact FP.Core.Datum.noConfusion
abbrev ml_a (t : Int32) : UInt32 := FP.fdiv (FP.i2f t) 1090519040
abbrev ml_q (t s : Int32) : Int32 := FP.f2i (FP.fdiv (FP.fsub (ml_a t) (FP.frem (ml_a t) (ml_a s))) (ml_a s))
def ml (t s : Int32) : Int32 := if ml_q t s < 100000 then ml_q t s else 100000
abbrev ml_R (t s : Int32) : Int64 := FP.f2l (FP.i2f t) - FP.f2l (FP.i2f t) / FP.f2l (FP.i2f s) * FP.f2l (FP.i2f s)
theorem ff_melt {t s : Int32} (ht : ¬ t < 0) (hs : ¬ s < 0) (hs0 : ¬ s = 0) : vf_n32 (ml_a t) ∧ vf_n32 (ml_a s) ∧ 1 ≤ FP.f2l (FP.i2f s) ∧ FP.fdiv (FP.l2f (ml_R t s)) 1090519040 = FP.frem (ml_a t) (ml_a s) ∧ vf_n32 (FP.frem (ml_a t) (ml_a s)) ∧ vf_n32 (FP.fsub (ml_a t) (FP.frem (ml_a t) (ml_a s))) ∧ vf_n32 (FP.fdiv (FP.fsub (ml_a t) (FP.frem (ml_a t) (ml_a s))) (ml_a s)) := by
  obtain ⟨T, T2, hTU, hTl, -, hTn, hTf, hTs, hTz⟩ := ff_t ht
  obtain ⟨S, S2, hSU, hSl, hS1, hSn, hSf, hSs, hSz⟩ := ff_t hs
  have hS1 := hS1 hs0
  have hbz : ¬ FP.Core.FZero (ml_a s) := FP.Core.fnot_zero hSn (by
    unfold FP.Core.zval
    rw [hSs, hSz]
    show ((S * 2 ^ 146 : Nat) : Int) ≠ 0
    have := Nat.mul_pos (show 0 < S by omega) (Nat.two_pow_pos 146)
    omega)
  obtain ⟨r1, r2, r3⟩ := FP.Core.frem_zval hTf hSn hbz
  have hm : T * 2 ^ 146 % (S * 2 ^ 146) = T % S * 2 ^ 146 := Nat.mul_mod_mul_right _ _ _
  rw [hTz, hSz, hm] at r3
  rw [hTs] at r2
  have eT : FP.f2l (FP.i2f t) = lN T := by
    apply Int64.toInt_inj.mp
    rw [hTl, pk_lT (by omega)]
  have eS : FP.f2l (FP.i2f s) = lN S := by
    apply Int64.toInt_inj.mp
    rw [hSl, pk_lT (by omega)]
  have eR : ml_R t s = lN (T % S) := by
    show FP.f2l (FP.i2f t) - FP.f2l (FP.i2f t) / FP.f2l (FP.i2f s) * FP.f2l (FP.i2f s) = _
    rw [eT, eS]
    exact pk_lRem (by omega) (by omega) (by omega)
  have hlt := Nat.mod_lt T (show 0 < S by omega)
  have hmod := ff_mod hTU hSU hS1
  obtain ⟨g1, g2, g3⟩ := ff_r (n := ml_R t s) (R := T % S) (by rw [eR, pk_lT (by omega)]) hmod (by omega)
  have hrest : FP.fdiv (FP.l2f (ml_R t s)) 1090519040 = FP.frem (ml_a t) (ml_a s) := ff_one g1 r1 (by rw [g2]; exact r2.symm) (by rw [g3]; exact r3.symm)
  have hrf : FP.Core.FFin (FP.frem (ml_a t) (ml_a s)) := by
    cases hv : FP.Core.val32 (FP.frem (ml_a t) (ml_a s)) with
    | nan => exact absurd hv r1
    | inf b =>
      have hv' : FP.Core.val32 (FP.Core.frem (ml_a t) (ml_a s)) = .inf b := hv
      rw [hv'] at r3
      have h8 : FP.Core.zmag FP.Core.b32 (.inf b) = 2 ^ 23 * 2 ^ 254 := rfl
      rw [h8] at r3
      have h9 : T % S * 2 ^ 146 < 2 ^ 33 * 2 ^ 146 := Nat.mul_lt_mul_of_pos_right (by omega) (Nat.two_pow_pos _)
      rw [ff_pw] at r3 h9
      have h7 : (2 : Nat) ^ (33 + 146) ≤ 2 ^ (23 + 254) := Nat.pow_le_pow_right (by decide) (by decide)
      omega
    | fin a b c => exact ⟨a, b, c, hv⟩
  have hsn := ff_sub hTf hrf
  obtain ⟨sb, cb, qb, hb⟩ := hSf
  have hsb : sb = false := by
    have := hSs
    rw [hb] at this
    exact this
  subst hsb
  have hcb : cb ≠ 0 := by
    intro h
    subst h
    exact hbz ⟨false, qb, hb⟩
  refine ⟨ff_n32 hTn, ff_n32 hSn, ?_, hrest, ff_n32 r1, ff_n32 hsn, ff_n32 (ff_div hsn hb hcb)⟩
  rw [eS, show (1 : Int64) = lN 1 from rfl]
  exact (pk_lLE (by decide) (by omega)).mpr hS1
/-! 9b.melt.lean.txt -/
/-! a CHANGE of the class, step by step; melt(), salt() -/
def CJ (s : AS) (z : Nat) (ow : Nat → Nat) (K : Nat → Int32) (y : BL × (Nat → Nat) × Nat × Nat) (c P : Nat) : Prop := KS s.1 z ∧ OWS ow z ∧ BK s.1 s.2 z ow 40 K y.1 ∧ CS s.1 s.2 z ow y.2.1 y.2.2.1 y.2.2.2 ∧ PB s.1 s.2 z ow K ∧ s.2.1 (z + 77) 5 = 0 ∧ s.2.1 (z + 201) 4 = 0 ∧ s.2.1 (z + 201) 7 = 0 ∧ s.2.1 (z + 0) 13 = 1 ∧ s.1.1.2.2 ≤ 75638 + 2 * (P + pot y.1 + smN y.2.1 4 + y.2.2.1 + y.2.2.2) + 5 * c ∧ 4 * s.1.1.2.1 ≤ 4 * (z + 264) + (P + pot y.1 + smN y.2.1 4 + 4 * y.2.2.1 + y.2.2.2) + 4 * c
section CJS
variable {s s' : AS} {sh : Sh} {d d' d0 : Dt} {z : Nat} {ow ow' : Nat → Nat} {R R' K : Nat → Int32} {u : Bool} {y : YL} {c c' N P P' : Nat} {q q' : BL} {yy : BL × (Nat → Nat) × Nat × Nat}
theorem cj_of (h : CI s z ow R K true y c) (g1 : s.2.1 (z + 77) 5 = 0) (g2 : s.2.1 (z + 201) 4 = 0) (g3 : s.2.1 (z + 201) 7 = 0) : CJ s z ow K y.2 c (pot y.1) := by
  obtain ⟨hK, hw, b1, b2, b3, b4, b5, b6, b7, b8, b9, b10, b11⟩ := h
  exact ⟨hK, hw, b2, b3, b5, g1, g2, g3, b9, b10, b11.1⟩
theorem cj_ci (h : CJ s z ow K yy c (pot q)) (hb : BK s.1 s.2 z ow 3 R q) (hp : PB s.1 s.2 z ow R) : CI s z ow R K true (q, yy) c := by
  obtain ⟨hK, hw, b2, b3, b5, g1, g2, g3, b9, b10, b11⟩ := h
  exact ⟨hK, hw, hb, b2, b3, hp, b5, Or.inl g1, Or.inl g2, Or.inl g3, b9, b10, b11, tln_0 g3⟩
theorem cj_es {lo hi : Nat} (h : CJ s z ow K yy c P) (he : ES (IX z ow lo hi) s ow s' ow') (hx : (1 ≤ lo ∧ hi ≤ 39) ∨ (236 ≤ lo ∧ hi < 242)) (m1 : s'.1.1.2.2 + 2 * P + 5 * c ≤ s.1.1.2.2 + 2 * P' + 5 * c') (m2 : 4 * s'.1.1.2.1 + P + 4 * c ≤ 4 * s.1.1.2.1 + P' + 4 * c') : CJ s' z ow' K yy c' P' ∧ RFR z s s' := by
  obtain ⟨hK, hw, b2, b3, b5, g1, g2, g3, b9, b10, b11⟩ := h
  have r0 := es_row hK hw he (i := 0) (by decide) (by omega)
  have r77 := es_row hK hw he (i := 77) (by decide) (by omega)
  have r201 := es_row hK hw he (i := 201) (by decide) (by omega)
  exact ⟨⟨KS.es hK he, OWS.es hw hK he, bk_ix b2 (Or.inr rfl) hK hw he (by omega), cs_ix b3 hK hw he (by omega), pb_ix b5 hK hw he (by omega) (by omega), by rw [r77.1]; exact g1, by rw [r201.1]; exact g2, by rw [r201.1]; exact g3, by rw [r0.1]; exact b9, by omega, by omega⟩, RFR.ix hK hw he (by omega)⟩
/-- the reference over its PLOUGHS -/
theorem rdpl {β : Type} {Q : β → Prop} {g : Int32 → Option β} {x : Int32} {p : Nat} (hK : KS sh z) (hA : AG (d.1 (z + 243)) R) (k : Nat) (hp : p < 12) (hk : k < 13) (hx : x = nI k) (kk : Rn (g (R (9426 + 13 * p + k))) Q) : Rn ((gP sh (z + 242) 12 0).bind fun v1 => (f_X12_pl N sh (z + 242) (nI p) d).bind fun v2 => (aT 0 sh d v1 (v2 + x)).bind g) Q := by
  subst hx
  refine r_gP hK 242 12 0 243 rfl (by decide) ?_
  refine rn_eq (m_pl hK) ?_
  refine rn_eq (q_aT (ks_a hK 243 0 15642 rfl) (9426 + 13 * p + k) (ix_pl p k) (by omega) (by decide)) ?_
  rw [hA _ (by omega)]
  exact kk
theorem wrpl {β : Type} {Q : β → Prop} {g : Dt → Option β} {x v : Int32} {p : Nat} (hK : KS sh z) (k : Nat) (hp : p < 12) (hk : k < 13) (hx : x = nI k) (kk : Rn (g (wI d (z + 243) (9426 + 13 * p + k) v)) Q) : Rn ((gP sh (z + 242) 12 0).bind fun v1 => (f_X12_pl N sh (z + 242) (nI p) d).bind fun v2 => (sI sh d v1 (v2 + x) v).bind g) Q := by
  subst hx
  refine r_gP hK 242 12 0 243 rfl (by decide) ?_
  refine rn_eq (m_pl hK) ?_
  exact rn_eq (q_sI (ks_a hK 243 0 15642 rfl) (9426 + 13 * p + k) (ix_pl p k) (by omega) (by decide)) kk
theorem m_kindOf {p : Nat} (hK : KS sh z) (hA : AG (d.1 (z + 243)) R) (hp : p < 12) : f_X12_kindOf N sh (z + 242) (nI p) d = some (R (9426 + 13 * p)) := by
  refine rn_val ?_
  unfold f_X12_kindOf
  refine rn_t (ks_o hK 242 12 rfl) ?_
  exact rdpl hK hA 0 hp (by decide) rfl (rn_some rfl)
/-- the class over its PLOUGHS -/
theorem k_isOut {p : Nat} (hb : bck 3) (hR : WF R) (hK : KS sh z) {L : Nat → Nat} (hT : TB sh d z ow 20 9 (nn R 3) (vP R) L) (hp : p < nn R 3) : f_X1_isOut N sh (z + 3) (nI p) d = some (if R (9426 + 13 * p + 2) = 1 then 1 else 0) := by
  have w := hR.2.2.2.2.1 p hp
  refine rn_val ?_
  unfold f_X1_isOut f_X1_isOut_19
  refine rn_t (ks_o hK 3 1 rfl) ?_
  refine r_gP hK 3 1 3 20 rfl (by decide) ?_
  refine rn_eq (tb_get (o := 20) (nc := 9) (c := 6) hK (by decide) hT rfl hp rfl (by decide)) ?_
  have ev : vP R 6 p = if R (9426 + 13 * p + 2) = 1 then -1 else R (9426 + 13 * p) := rfl
  rw [ev]
  by_cases h1 : R (9426 + 13 * p + 2) = 1
  · rw [if_pos h1, if_pos h1]
    exact rn_f (fun q => q rfl) ⟨1, rfl, rfl⟩
  · rw [if_neg h1, if_neg h1]
    refine rn_t (fun e => ?_) ⟨0, rfl, rfl⟩
    rw [w.1.1] at e
    exact nI_m1 (by omega) e
theorem k_body {p : Nat} (hK : KS sh z) (hB : PB sh d z ow R) (hp : p < nn R 3) (hN : WN R) : ∃ a, aQ 6 sh d (z + 235) (nI p) = some a ∧ iOf sh a 7 = some (if nn R (9426 + 13 * p) = 2 then 1 else 0) ∧ iOf sh a 3 = some (if nn R (9426 + 13 * p) = 4 then 1 else 0) ∧ ((nn R (9426 + 13 * p) ≤ 3 ∧ BO sh d z ow a (nn R (9426 + 13 * p))) ∨ (nn R (9426 + 13 * p) = 4 ∧ BP sh d z ow a (nn R (9426 + 13 * nn R (9426 + 13 * p + 3))) (nn R (9426 + 13 * nn R (9426 + 13 * p + 4))))) := by
  obtain ⟨a, h1, h2⟩ := hB p hp
  have n3 := hN.2.2.2.1.2
  refine ⟨a, q_aQ (ks_a hK 235 6 12 rfl) p a rfl (by omega) (by decide) h1, ?_, ?_, h2⟩
  · unfold iOf
    rcases h2 with ⟨k1, b1, b2, b3, -⟩ | ⟨k1, b1, b2, b3, -⟩
    · have hk : nn R (9426 + 13 * p) = 0 ∨ nn R (9426 + 13 * p) = 1 ∨ nn R (9426 + 13 * p) = 2 ∨ nn R (9426 + 13 * p) = 3 := by omega
      rcases hk with e | e | e | e <;> rw [e] at b3 ⊢ <;> simp only [kcl] at b3 <;> simp at b3 <;> rw [if_pos ⟨b1, b2, by omega⟩, b3] <;> rfl
    · rw [if_pos ⟨b1, b2, by omega⟩, b3, k1]
      rfl
  · unfold iOf
    rcases h2 with ⟨k1, b1, b2, b3, -⟩ | ⟨k1, b1, b2, b3, -⟩
    · have hk : nn R (9426 + 13 * p) = 0 ∨ nn R (9426 + 13 * p) = 1 ∨ nn R (9426 + 13 * p) = 2 ∨ nn R (9426 + 13 * p) = 3 := by omega
      rcases hk with e | e | e | e <;> rw [e] at b3 ⊢ <;> simp only [kcl] at b3 <;> simp at b3 <;> rw [if_pos ⟨b1, b2, by omega⟩, b3] <;> rfl
    · rw [if_pos ⟨b1, b2, by omega⟩, b3, k1]
      rfl
def thin (v m : Int32) : Int32 := if 0 ≤ v - m then v - m else 0
theorem thin_max {v m : Int32} : o_max (0 : Int32) (v - m) = thin v m := by
  unfold thin o_max
  by_cases h : 0 < v - m
  · rw [if_pos h, if_pos (Int32.le_of_lt h)]
  · rw [if_neg h]
    by_cases h2 : 0 ≤ v - m
    · rw [if_pos h2]
      exact Int32.le_antisymm h2 (Int32.not_lt.mp h)
    · rw [if_neg h2]
theorem k_lessDrift {i : Nat} {m : Int32} (hK : KS sh z) (hw : OWS ow z) (hN : WN R) (h : BK sh d z ow 3 R q) (hi : i < nn R 1) : Rn (f_X1_lessDrift N sh (z + 3) (nI i) m d) (fun d' => FD (IX z ow 4 5) d d' ∧ BK sh d' z ow 3 (va_up R (16 + 9 * i + 0) (thin (R (16 + 9 * i + 0)) m)) q) := by
  have ht : tck 4 9 = true := by decide
  unfold f_X1_lessDrift
  refine rn_t (ks_o hK 3 1 rfl) ?_
  refine r_gP hK 3 1 1 4 rfl (by decide) ?_
  refine r_gP hK 3 1 1 4 rfl (by decide) ?_
  refine rn_eq (tb_get (o := 4) (nc := 9) (c := 0) hK ht h.2.1 rfl hi rfl (by decide)) ?_
  have ev : vS R 0 i = R (16 + 9 * i + 0) := rfl
  rw [ev, thin_max]
  refine rn_bind (tb_put (o := 4) (nc := 9) (c := 0) hK hw ht h.2.1 rfl hi rfl (by decide)) (fun d1 hd => rn_some ?_)
  exact ⟨hd.2.mono (fun a ha => tx_ix ht hw ha), bk_upS (Or.inl rfl) hK hw hN h hi (by decide) hd.1 hd.2⟩
theorem m_thins {i : Nat} {m : Int32} (hK : KS sh z) (hN : WN R) (hI : RI d z R K u) (hi : i < nn R 1) : Rn (f_X12_thins N sh (z + 242) (nI i) m d) (fun d' => MFR z d d' ∧ RI d' z (va_up R (16 + 9 * i + 0) (thin (R (16 + 9 * i + 0)) m)) K u) := by
  have n1 := hN.2.1.2
  have ha := ks_a hK 243 0 15642 rfl
  unfold f_X12_thins f_X12_thins_35
  refine rn_t (ks_o hK 242 12 rfl) ?_
  refine rds hK hI.1 0 (by omega) (by decide) rfl ?_
  refine r_gP hK 242 12 0 243 rfl (by decide) ?_
  refine rn_eq (m_st hK) ?_
  unfold thin
  refine rn_ite (fun h1 => ?_) (fun h1 => ?_)
  · rw [if_pos h1]
    refine rn_eq (q_sI ha (16 + 9 * i + 0) (ix_st i 0) (by omega) (by decide)) (rn_some ?_)
    exact ⟨MFR.wI (by decide) (by decide), ri_cellG hI hN (by omega) (fun s k _ q1 q2 => by omega)⟩
  · rw [if_neg h1]
    refine rn_eq (q_sI ha (16 + 9 * i + 0) (ix_st i 0) (by omega) (by decide)) (rn_some ?_)
    exact ⟨MFR.wI (by decide) (by decide), ri_cellG hI hN (by omega) (fun s k _ q1 q2 => by omega)⟩
/-- all STREETS thaw -/
def meF (R : Nat → Int32) (m : Int32) : Nat → Nat → Int32
  | 0 => R
  | k + 1 => va_up (meF R m k) (16 + 9 * k + 0) (thin (meF R m k (16 + 9 * k + 0)) m)
theorem meF_wn {m : Int32} (h : WN R) : ∀ k, WN (meF R m k)
  | 0 => h
  | k + 1 => wn_up (meF_wn h k) (by omega)
theorem meF_out {m : Int32} {j : Nat} : ∀ k, (∀ i, i < k → j ≠ 16 + 9 * i) → meF R m k j = R j
  | 0, _ => rfl
  | k + 1, h => by
    show va_up (meF R m k) (16 + 9 * k) _ j = R j
    rw [va_up_n (h k (Nat.lt_succ_self k))]
    exact meF_out k (fun i hi => h i (by omega))
theorem meF_nn {m : Int32} {j k : Nat} (h : ∀ i, i < k → j ≠ 16 + 9 * i) : nn (meF R m k) j = nn R j := by
  unfold nn
  rw [meF_out k h]
def sp_melt (R : Nat → Int32) (t s : Int32) : Int32 × Option (Nat → Int32) := if t < 0 ∨ s < 0 then (-2, none) else if s = 0 then (-8, none) else (ml t s, some (meF R ((3 : Int32) * ml t s) (nn R 1)))
theorem m_melt_loop {b v : Int32} (hb : b = (3 : Int32) * v) (hK : KS sh z) (hN : WN R) : ∀ (m k fu : Nat) (d : Dt), k + m = nn R 1 → m < fu → MFR z d0 d → RI d z (meF R b k) R true → Rn (f_X12_melt_61 N sh fu (z + 242) v (nI k) d) (RO z R K u (v, some (meF R b (nn R 1))) d0)
  | 0, k, fu, d, hk, hf, hM, hI => by
    obtain ⟨fu, rfl⟩ : ∃ q, fu = q + 1 := ⟨fu - 1, by omega⟩
    show Rn (g_X12_melt_61 N sh (f_X12_melt_61 N sh fu) (z + 242) v (nI k) d) _
    have n1 := hN.2.1
    unfold g_X12_melt_61 f_X12_melt_88
    refine rdg hK hI.1 1 rfl (by decide) ?_
    rw [meF_out k (fun i _ => by omega), n1.1]
    refine rn_t ((nI_leI (by omega) (by omega)).mpr (by omega)) ?_
    have ek : k = nn R 1 := by omega
    subst ek
    exact ro_done hK hI hM rfl
  | m + 1, k, fu, d, hk, hf, hM, hI => by
    obtain ⟨fu, rfl⟩ : ∃ q, fu = q + 1 := ⟨fu - 1, by omega⟩
    have ih := m_melt_loop hb hK hN m (k + 1) fu
    show Rn (g_X12_melt_61 N sh (f_X12_melt_61 N sh fu) (z + 242) v (nI k) d) _
    have n1 := hN.2.1
    unfold g_X12_melt_61
    refine rdg hK hI.1 1 rfl (by decide) ?_
    rw [meF_out k (fun i _ => by omega), n1.1]
    refine rn_f (nI_ge (by omega) (by omega)) ?_
    refine rn_bind (m_thins hK (meF_wn hN k) hI (by rw [meF_nn (fun i _ => by omega)]; omega)) (fun d1 hd => ?_)
    rw [nI_1]
    refine ih _ (by omega) (by omega) (hM.tr hd.1) ?_
    rw [hb]
    have r := hd.2
    rw [hb] at r
    exact r
theorem cap_ml {w : Int32} : o_min (100000 : Int32) w = if w < 100000 then w else 100000 := rfl
theorem les_ml {w : Int32} : (if (100000 : Int32) ≤ w then (100000 : Int32) else w) = if w < 100000 then w else 100000 := by
  by_cases h : w < 100000
  · rw [if_pos h, if_neg (Int32.not_le.mpr h)]
  · rw [if_neg h, if_pos (Int32.not_lt.mp h)]
theorem m_whole {w : UInt32} (hK : KS sh z) : f_X12_whole N sh (z + 242) w d = some (if FP.f2i w < 100000 then FP.f2i w else 100000) := by
  refine rn_val ?_
  unfold f_X12_whole
  refine rn_t (ks_o hK 242 12 rfl) ?_
  refine rn_eq m_lesser (rn_some les_ml)
theorem m_melt {t s : Int32} (hNf : 15642 < N) (hK : KS sh z) (h : RI d z R K u) (hR : WF R) : Rn (f_X12_melt N sh (z + 242) t s d) (RO z R K u (sp_melt R t s) d) := by
  have hN := hR.1
  have n1 := hN.2.1.2
  unfold f_X12_melt f_X12_melt_8
  refine rn_t (ks_o hK 242 12 rfl) ?_
  by_cases ht : t < 0
  · refine rn_t ht ?_
    exact ro_refuses hK h (if_pos (Or.inl ht))
  refine rn_f ht ?_
  by_cases hs : s < 0
  · refine rn_f (Int32.not_le.mpr hs) ?_
    exact ro_refuses hK h (if_pos (Or.inr hs))
  refine rn_t (Int32.not_lt.mp hs) ?_
  rw [show sp_melt R t s = _ from if_neg (fun q => q.elim ht hs)]
  by_cases h0 : s = 0
  · rw [if_pos h0]
    refine rn_f (fun q => q h0) ?_
    exact ro_refuses hK h rfl
  rw [if_neg h0]
  refine rn_t h0 ?_
  obtain ⟨w1, w2, w3, w4, w5, w6, w7⟩ := ff_melt ht hs h0
  refine rn_bind (ri_keeps h hK hNf) (fun d1 hd => ?_)
  obtain ⟨x1, x2⟩ := hd
  refine rn_eq (v := ml_a t) (if_pos w1) ?_
  refine rn_eq (v := ml_a s) (if_pos w2) ?_
  refine rn_eq (v := FP.frem (ml_a t) (ml_a s)) (if_pos w5) ?_
  refine rn_eq (v := FP.fsub (ml_a t) (FP.frem (ml_a t) (ml_a s))) (if_pos w6) ?_
  refine rn_eq (v := FP.fdiv (FP.fsub (ml_a t) (FP.frem (ml_a t) (ml_a s))) (ml_a s)) (if_pos w7) ?_
  refine rn_eq (m_whole hK) ?_
  exact m_melt_loop (v := ml t s) rfl hK hN (nn R 1) 0 N d1 (by omega) (by omega) x2 x1
theorem k_melt_loop {b v : Int32} {s0 s1 : AS} {y1 : YL} (hb : b = (3 : Int32) * v) (hN : WN R) (c1 : CI s1 z ow R R true y1 c) (f1 : RFR z s0 s1) (g1 : s1.2.1 (z + 77) 5 = 0) (g2 : s1.2.1 (z + 201) 4 = 0) (g3 : s1.2.1 (z + 201) 7 = 0) : ∀ (m k fu : Nat) (d : Dt), k + m = nn R 1 → m < fu → FD (IX z ow 3 39) s1.2 d → BK s1.1 d z ow 3 (meF R b k) y1.1 → Rn (f_X11_melt_39 N fu z v (nI k) (s1.1, d)) (KO z R K u c (v, some (meF R b (nn R 1))) s0)
  | 0, k, fu, d, hk, hf, hF, hB => by
    obtain ⟨fu, rfl⟩ : ∃ q, fu = q + 1 := ⟨fu - 1, by omega⟩
    show Rn (g_X11_melt_39 N (f_X11_melt_39 N fu) z v (nI k) (s1.1, d)) _
    have hK := c1.1
    have n1 := hN.2.1
    unfold g_X11_melt_39 f_X11_melt_72
    refine r_now hK 1 4 (by decide) ?_
    refine r_gI hK (i := 4) (c := 8) rfl ?_
    rw [hB.2.1.1, meF_nn (fun i _ => by omega)]
    refine rn_t ((nI_leI (by omega) (by omega)).mpr (by omega)) ?_
    have ek : k = nn R 1 := by omega
    subst ek
    have qn := ci_new c1 g1 g2 g3 hF hB (pb_congr c1.2.2.2.2.2.1 (meF_out _ (fun i hi => by omega)) (fun j hj => meF_out _ (fun i hi => by omega)))
    refine rn_bind (k_answer hK) (fun r hr => rn_some ?_)
    have q3 := ci_lg qn.1 hr.2
    exact ⟨hr.1, (f1.tr qn.2).tr q3.2, ow, _, q3.1⟩
  | m + 1, k, fu, d, hk, hf, hF, hB => by
    obtain ⟨fu, rfl⟩ : ∃ q, fu = q + 1 := ⟨fu - 1, by omega⟩
    have ih := k_melt_loop hb hN c1 f1 g1 g2 g3 m (k + 1) fu
    show Rn (g_X11_melt_39 N (f_X11_melt_39 N fu) z v (nI k) (s1.1, d)) _
    have hK := c1.1
    have n1 := hN.2.1
    unfold g_X11_melt_39
    refine r_now hK 1 4 (by decide) ?_
    refine r_gI hK (i := 4) (c := 8) rfl ?_
    rw [hB.2.1.1, meF_nn (fun i _ => by omega)]
    refine rn_f (nI_ge (by omega) (by omega)) ?_
    rw [← z0 (z := z)]
    refine r_gP hK 0 11 1 3 rfl (by decide) ?_
    refine rn_bind (k_lessDrift hK c1.2.1 (meF_wn hN k) hB (by rw [meF_nn (fun i _ => by omega)]; omega)) (fun d1 hd => ?_)
    rw [nI_1]
    refine ih _ (by omega) (by omega) (hF.tr (hd.1.mono (fun a ha => ix_mono ha (by omega) (by omega)))) ?_
    rw [hb]
    have r := hd.2
    rw [hb] at r
    exact r
theorem k_melt {t x : Int32} (hNf : 300 ≤ N) (h : CI s z ow R K u y c) (hR : WF R) (hKF : WF K) : Rn (f_X11_melt N z t x s) (KO z R K u c (sp_melt R t x) s) := by
  have hK := h.1
  have hN := hR.1
  have n1 := hN.2.1.2
  have bad : t < 0 ∨ x < 0 → Rn (f_X11_melt_8 N z s) (KO z R K u c (sp_melt R t x) s) := fun hb => by
    rw [show sp_melt R t x = _ from if_pos hb]
    unfold f_X11_melt_8
    refine rn_bind (k_refuse hK) (fun r hr => rn_some ?_)
    exact ko_lg h hr rfl
  unfold f_X11_melt
  refine rn_t (ks_o hK 0 11 rfl) ?_
  refine rn_ite (fun ht => bad (Or.inl ht)) (fun ht => ?_)
  refine rn_ite (fun hs => ?_) (fun hs => bad (Or.inr (Int32.not_le.mp hs)))
  have hs : ¬ x < 0 := Int32.not_lt.mpr hs
  rw [show sp_melt R t x = _ from if_neg (fun q => q.elim ht hs)]
  by_cases h0 : x = 0
  · rw [if_pos h0]
    refine rn_f (fun q => q h0) ?_
    refine rn_bind (k_refuse hK) (fun r hr => rn_some ?_)
    exact ko_lg h hr rfl
  rw [if_neg h0]
  refine rn_t h0 ?_
  obtain ⟨w1, w2, w3, w4, w5, w6, w7⟩ := ff_melt ht hs h0
  refine rn_eq (v := ml t x) ?_ ?_
  · refine rn_val ?_
    unfold f_X11_wholeIn
    have hge : (0 : Int32) ≤ lg_cmp (FP.f2l (FP.i2f x)) 1 := by
      unfold lg_cmp
      split
      · decide
      · split
        · decide
        · rename_i h1 h2
          exact absurd (Int64.le_antisymm (Int64.not_lt.mp h1) w3) h2
    refine rn_t hge ?_
    refine rn_eq (v := ml_R t x) (if_neg (fun e => ?_)) ?_
    · rw [e] at w3
      exact absurd w3 (by decide)
    refine rn_eq (v := FP.frem (ml_a t) (ml_a x)) ?_ ?_
    · unfold o_n32
      rw [w4]
      exact if_pos w5
    refine rn_eq (v := ml_a t) (if_pos w1) ?_
    refine rn_eq (v := ml_a x) (if_pos w2) ?_
    refine rn_eq (v := FP.fsub (ml_a t) (FP.frem (ml_a t) (ml_a x))) (if_pos w6) ?_
    refine rn_eq (v := FP.fdiv (FP.fsub (ml_a t) (FP.frem (ml_a t) (ml_a x))) (ml_a x)) (if_pos w7) ?_
    exact rn_some rfl
  refine rn_bind (ci_change (by omega) h hR.1 hR.2.1 hKF.1) (fun s1 hs1 => ?_)
  obtain ⟨f1, g1, g2, g3, ow1, y1, -, c1⟩ := hs1
  unfold f_X11_melt_36
  exact k_melt_loop (v := ml t x) rfl hN c1 f1 g1 g2 g3 (nn R 1) 0 N s1.2 (by omega) (by omega) FD.rf c1.2.2.1
end CJS
/-! 9c.plou.lean.txt -/
/-! PLOUGHS of the reference: out, plough, pair, salt -/
def zrF (R : Nat → Int32) (B k : Nat) : Nat → Int32 := fun j => if B ≤ j ∧ j < B + k then 0 else R j
/-- a PLOUGH without a PART -/
def lpR (R : Nat → Int32) (p : Nat) : Nat → Int32 := zrF R (9426 + 13 * p + 5) 8
/-- a PLOUGH that is OUT -/
def lvR (R : Nat → Int32) (p : Nat) : Nat → Int32 := lpR (va_up R (9426 + 13 * p + 2) 1) p
/-- a new PLOUGH -/
def comR (R : Nat → Int32) (k m a b : Int32) : Nat → Int32 := va_up (va_up (va_up (va_up (va_up (zrF R (9426 + 13 * nn R 3) 13) (9426 + 13 * nn R 3 + 0) k) (9426 + 13 * nn R 3 + 1) m) (9426 + 13 * nn R 3 + 3) a) (9426 + 13 * nn R 3 + 4) b) 3 (nI (nn R 3 + 1))
section PLO
variable {sh : Sh} {d d' d0 : Dt} {z : Nat} {R R' K : Nat → Int32} {u : Bool} {N B k p : Nat}
theorem zr_0 : zrF R B 0 = R := funext fun j => if_neg (by omega)
theorem zr_s : va_up (zrF R B k) (B + k) 0 = zrF R B (k + 1) := funext fun j => by
  by_cases e : j = B + k
  · rw [e, va_up_s]
    exact (if_pos (by omega)).symm
  · rw [va_up_n e]
    unfold zrF
    by_cases h : B ≤ j ∧ j < B + k
    · rw [if_pos h, if_pos (by omega)]
    · rw [if_neg h, if_neg (by omega)]
theorem zr_in {j : Nat} (h : B ≤ j ∧ j < B + k) : zrF R B k j = 0 := if_pos h
theorem zr_out {j : Nat} (h : ¬ (B ≤ j ∧ j < B + k)) : zrF R B k j = R j := if_neg h
theorem zr_wn (h : WN R) (hB : 5 ≤ B) : ∀ k, WN (zrF R B k)
  | 0 => by rw [zr_0]; exact h
  | k + 1 => by rw [← zr_s]; exact wn_up (zr_wn h hB k) (by omega)
theorem m_lose_loop (hK : KS sh z) (hN : WN R) (hp : p < 12) : ∀ (m k fu : Nat) (d : Dt), k + m = 8 → m < fu → MFR z d0 d → RI d z (zrF R (9426 + 13 * p + 5) k) K u → Rn (f_X12_losesPart_2 N sh fu (z + 242) (nI p) (nI (5 + k)) d) (fun d' => MFR z d0 d' ∧ RI d' z (lpR R p) K u)
  | 0, k, fu, d, hk, hf, hM, hI => by
    obtain ⟨fu, rfl⟩ : ∃ q, fu = q + 1 := ⟨fu - 1, by omega⟩
    show Rn (g_X12_losesPart_2 N sh (f_X12_losesPart_2 N sh fu) (z + 242) (nI p) (nI (5 + k)) d) _
    unfold g_X12_losesPart_2 f_X12_losesPart_27
    have ek : k = 8 := by omega
    subst ek
    exact rn_t (by decide) (rn_some ⟨hM, hI⟩)
  | m + 1, k, fu, d, hk, hf, hM, hI => by
    obtain ⟨fu, rfl⟩ : ∃ q, fu = q + 1 := ⟨fu - 1, by omega⟩
    have ih := m_lose_loop hK hN hp m (k + 1) fu
    show Rn (g_X12_losesPart_2 N sh (f_X12_losesPart_2 N sh fu) (z + 242) (nI p) (nI (5 + k)) d) _
    unfold g_X12_losesPart_2
    refine rn_f (nI_ge (a := 5 + k) (b := 13) (by omega) (by decide)) ?_
    refine wrpl hK (5 + k) hp (by omega) rfl ?_
    rw [nI_1, ← Nat.add_assoc (9426 + 13 * p) 5 k]
    refine ih _ (by omega) (by omega) (hM.tr (MFR.wI (by decide) (by decide))) ?_
    have r := ri_cellG (j := 9426 + 13 * p + 5 + k) (v := 0) hI (zr_wn hN (by omega) k) (by omega) (fun s k _ q1 q2 => by omega)
    rw [zr_s] at r
    exact r
theorem m_losesPart (hN1 : 100 ≤ N) (hK : KS sh z) (hN : WN R) (hp : p < 12) (hI : RI d z R K u) : Rn (f_X12_losesPart N sh (z + 242) (nI p) d) (fun d' => MFR z d d' ∧ RI d' z (lpR R p) K u) := by
  unfold f_X12_losesPart
  refine rn_t (ks_o hK 242 12 rfl) ?_
  exact m_lose_loop hK hN hp 8 0 N d (by omega) (by omega) MFR.rf (by rw [zr_0]; exact hI)
theorem m_leaves (hN1 : 100 ≤ N) (hK : KS sh z) (hN : WN R) (hp : p < 12) (hI : RI d z R K u) : Rn (f_X12_leaves N sh (z + 242) (nI p) d) (fun d' => MFR z d d' ∧ RI d' z (lvR R p) K u) := by
  unfold f_X12_leaves
  refine rn_t (ks_o hK 242 12 rfl) ?_
  refine wrpl hK 2 hp (by decide) rfl ?_
  have r := ri_cellG (j := 9426 + 13 * p + 2) (v := 1) hI hN (by omega) (fun s k _ q1 q2 => by omega)
  refine rn_bind (m_losesPart hN1 hK (wn_up hN (by omega)) hp r) (fun d1 hd => rn_some ?_)
  exact ⟨(MFR.wI (by decide) (by decide)).tr hd.1, hd.2⟩
theorem lvR_wn (hN : WN R) : WN (lvR R p) := zr_wn (wn_up hN (by omega)) (by omega) 8
theorem lpR_n {j : Nat} (h : j < 9426 + 13 * p + 5 ∨ 9426 + 13 * p + 13 ≤ j) : lpR R p j = R j := zr_out (by omega)
theorem lvR_n {j : Nat} (h : j < 9426 + 13 * p ∨ 9426 + 13 * p + 13 ≤ j) : lvR R p j = R j := by
  unfold lvR
  rw [lpR_n (by omega), va_up_n (by omega)]
theorem lvR_k {j : Nat} (h : 9426 + 13 * p ≤ j ∧ j < 9426 + 13 * p + 5) (h2 : j ≠ 9426 + 13 * p + 2) : lvR R p j = R j := by
  unfold lvR
  rw [lpR_n (by omega), va_up_n (by omega)]
theorem lvR_2 : lvR R p (9426 + 13 * p + 2) = 1 := by
  unfold lvR
  rw [lpR_n (by omega), va_up_s]
theorem lvR_z {x : Nat} (h : 5 ≤ x ∧ x < 13) : lvR R p (9426 + 13 * p + x) = 0 := zr_in (by omega)
theorem m_comes_loop {kd mi a b : Int32} (hK : KS sh z) (hN : WN R) (hp : nn R 3 < 12) : ∀ (m k fu : Nat) (d : Dt), k + m = 13 → m < fu → MFR z d0 d → RI d z (zrF R (9426 + 13 * nn R 3) k) K true → Rn (f_X12_comes_15 N sh fu (z + 242) kd mi a b ((9426 : Int32) + (13 : Int32) * nI (nn R 3)) (nI k) d) (fun r => r.1 = nI (nn R 3) ∧ MFR z d0 r.2 ∧ RI r.2 z (comR R kd mi a b) K true)
  | 0, k, fu, d, hk, hf, hM, hI => by
    obtain ⟨fu, rfl⟩ : ∃ q, fu = q + 1 := ⟨fu - 1, by omega⟩
    show Rn (g_X12_comes_15 N sh (f_X12_comes_15 N sh fu) (z + 242) kd mi a b ((9426 : Int32) + (13 : Int32) * nI (nn R 3)) (nI k) d) _
    unfold g_X12_comes_15 f_X12_comes_39
    have ek : k = 13 := by omega
    subst ek
    refine rn_t (by decide) ?_
    have ha := ks_a hK 243 0 15642 rfl
    have w0 := zr_wn (B := 9426 + 13 * nn R 3) hN (by omega) 13
    refine r_gP hK 242 12 0 243 rfl (by decide) ?_
    refine rn_eq (q_sI ha (9426 + 13 * nn R 3 + 0) (ix_pl (nn R 3) 0) (by omega) (by decide)) ?_
    have y1 := ri_cellG (j := 9426 + 13 * nn R 3 + 0) (v := kd) hI w0 (by omega) (fun s k _ q1 q2 => by omega)
    have w1 := wn_up (j := 9426 + 13 * nn R 3 + 0) (v := kd) w0 (by omega)
    refine r_gP hK 242 12 0 243 rfl (by decide) ?_
    refine rn_eq (q_sI ha (9426 + 13 * nn R 3 + 1) (ix_pl (nn R 3) 1) (by omega) (by decide)) ?_
    have y2 := ri_cellG (j := 9426 + 13 * nn R 3 + 1) (v := mi) y1 w1 (by omega) (fun s k _ q1 q2 => by omega)
    have w2 := wn_up (j := 9426 + 13 * nn R 3 + 1) (v := mi) w1 (by omega)
    refine r_gP hK 242 12 0 243 rfl (by decide) ?_
    refine rn_eq (q_sI ha (9426 + 13 * nn R 3 + 3) (ix_pl (nn R 3) 3) (by omega) (by decide)) ?_
    have y3 := ri_cellG (j := 9426 + 13 * nn R 3 + 3) (v := a) y2 w2 (by omega) (fun s k _ q1 q2 => by omega)
    have w3 := wn_up (j := 9426 + 13 * nn R 3 + 3) (v := a) w2 (by omega)
    refine r_gP hK 242 12 0 243 rfl (by decide) ?_
    refine rn_eq (q_sI ha (9426 + 13 * nn R 3 + 4) (ix_pl (nn R 3) 4) (by omega) (by decide)) ?_
    have y4 := ri_cellG (j := 9426 + 13 * nn R 3 + 4) (v := b) y3 w3 (by omega) (fun s k _ q1 q2 => by omega)
    have w4 := wn_up (j := 9426 + 13 * nn R 3 + 4) (v := b) w3 (by omega)
    refine r_gP hK 242 12 0 243 rfl (by decide) ?_
    refine rn_eq (q_aT ha 3 rfl (by decide) (by decide)) ?_
    rw [y4.1 3 (by decide), va_up_n (by omega), va_up_n (by omega), va_up_n (by omega), va_up_n (by omega), zr_out (by omega), hN.2.2.2.1.1, nI_1]
    refine rn_eq (q_sI ha 3 rfl (by decide) (by decide)) ?_
    have y5 := ri_cellG (j := 3) (v := nI (nn R 3 + 1)) y4 w4 (by omega) (fun s k _ q1 q2 => by omega)
    refine rdg hK y5.1 3 rfl (by decide) ?_
    rw [va_up_s, nI_pred]
    refine rn_eq (m_says hK) (rn_some ⟨rfl, ?_, ri_rg y5 (RG.w242 (Or.inl rfl))⟩)
    exact hM.tr ((MFR.wI (by decide) (by decide)).tr ((MFR.wI (by decide) (by decide)).tr ((MFR.wI (by decide) (by decide)).tr ((MFR.wI (by decide) (by decide)).tr ((MFR.wI (by decide) (by decide)).tr (MFR.wI (by decide) (by decide)))))))
  | m + 1, k, fu, d, hk, hf, hM, hI => by
    obtain ⟨fu, rfl⟩ : ∃ q, fu = q + 1 := ⟨fu - 1, by omega⟩
    have ih := m_comes_loop (kd := kd) (mi := mi) (a := a) (b := b) hK hN hp m (k + 1) fu
    show Rn (g_X12_comes_15 N sh (f_X12_comes_15 N sh fu) (z + 242) kd mi a b ((9426 : Int32) + (13 : Int32) * nI (nn R 3)) (nI k) d) _
    unfold g_X12_comes_15
    refine rn_f (nI_ge (a := k) (b := 13) (by omega) (by decide)) ?_
    refine r_gP hK 242 12 0 243 rfl (by decide) ?_
    refine rn_eq (q_sI (ks_a hK 243 0 15642 rfl) (9426 + 13 * nn R 3 + k) (ix_pl (nn R 3) k) (by omega) (by decide)) ?_
    rw [nI_1]
    refine ih _ (by omega) (by omega) (hM.tr (MFR.wI (by decide) (by decide))) ?_
    have r := ri_cellG (j := 9426 + 13 * nn R 3 + k) (v := 0) hI (zr_wn hN (by omega) k) (by omega) (fun s k _ q1 q2 => by omega)
    rw [zr_s] at r
    exact r
theorem m_comes {kd mi a b : Int32} (hN1 : 100 ≤ N) (hK : KS sh z) (hN : WN R) (hp : nn R 3 < 12) (hI : RI d z R K true) : Rn (f_X12_comes N sh (z + 242) kd mi a b d) (fun r => r.1 = nI (nn R 3) ∧ MFR z d r.2 ∧ RI r.2 z (comR R kd mi a b) K true) := by
  unfold f_X12_comes
  refine rn_t (ks_o hK 242 12 rfl) ?_
  refine rdg hK hI.1 3 rfl (by decide) ?_
  rw [hN.2.2.2.1.1]
  refine rn_eq (m_pl hK) ?_
  exact m_comes_loop hK hN hp 13 0 N d (by omega) (by omega) MFR.rf (by rw [zr_0]; exact hI)
def sp_out (R : Nat → Int32) (x : Int32) : Int32 × Option (Nat → Int32) := if x < 0 ∨ nI (nn R 3) ≤ x then (-2, none) else ((if R (9426 + 13 * x.toNatClampNeg + 2) = 1 then 0 else 1), some (lvR R x.toNatClampNeg))
theorem m_out {x : Int32} (hNf : 15642 < N) (hK : KS sh z) (h : RI d z R K u) (hR : WF R) : Rn (f_X12_out N sh (z + 242) x d) (RO z R K u (sp_out R x) d) := by
  have hN := hR.1
  have n3 := hN.2.2.2.1.2
  unfold f_X12_out
  refine rn_t (ks_o hK 242 12 rfl) ?_
  refine rn_eq (ri_isPlough hK h hN) ?_
  by_cases hb : x < 0 ∨ nI (nn R 3) ≤ x
  · rw [show sp_out R x = _ from if_pos hb]
    refine rn_f (fun q => q (ite01.mpr hb)) ?_
    exact ro_refuses hK h rfl
  rw [show sp_out R x = _ from if_neg hb]
  refine rn_t (fun q => hb (ite01.mp q)) ?_
  obtain ⟨p, hp, rfl, e2⟩ := st_of (by omega) hb
  rw [e2]
  refine rn_bind (ri_keeps h hK hNf) (fun d1 hd => ?_)
  obtain ⟨x1, x2⟩ := hd
  refine rdpl hK x1.1 2 (by omega) (by decide) rfl ?_
  refine rn_bind (m_leaves (by omega) hK hN (by omega) x1) (fun d2 hd2 => ?_)
  refine ro_done hK hd2.2 (x2.tr hd2.1) ?_
  rcases (hR.2.2.2.2.1 p hp).2.2.2.1 with e | e
  · rw [e, if_neg (by decide)]
    rfl
  · rw [e, if_pos rfl]
    rfl
def sp_plough (R : Nat → Int32) (k m : Int32) : Int32 × Option (Nat → Int32) := if (k < 0 ∨ 3 < k) ∨ (m < 0 ∨ 10000 < m) then (-2, none) else if nn R 3 = 12 then (-3, none) else (nI (nn R 3), some (comR R k m (-1) (-1)))
theorem m_plough {k m : Int32} (hNf : 15642 < N) (hK : KS sh z) (h : RI d z R K u) (hR : WF R) : Rn (f_X12_plough N sh (z + 242) k m d) (RO z R K u (sp_plough R k m) d) := by
  have hN := hR.1
  have n3 := hN.2.2.2.1
  unfold f_X12_plough f_X12_plough_20
  refine rn_t (ks_o hK 242 12 rfl) ?_
  refine rn_eq m_in ?_
  by_cases h1 : k < 0 ∨ 3 < k
  · refine rn_t (ite01.mpr h1) ?_
    exact ro_refuses hK h (if_pos (Or.inl h1))
  refine rn_f (fun q => h1 (ite01.mp q)) ?_
  refine rn_eq m_in ?_
  by_cases h2 : m < 0 ∨ 10000 < m
  · refine rn_f (fun q => q (ite01.mpr h2)) ?_
    exact ro_refuses hK h (if_pos (Or.inr h2))
  refine rn_t (fun q => h2 (ite01.mp q)) ?_
  rw [show sp_plough R k m = _ from if_neg (fun q => q.elim h1 h2)]
  refine rdg hK h.1 3 rfl (by decide) ?_
  rw [n3.1]
  by_cases h6 : nn R 3 = 12
  · rw [if_pos h6]
    refine rn_f (fun q => q (by rw [h6]; rfl)) ?_
    exact ro_refuses hK h rfl
  rw [if_neg h6]
  refine rn_t (fun e => h6 (nI_inj (b := 12) e (by omega) (by decide))) ?_
  refine rn_bind (ri_keeps h hK hNf) (fun d1 hd => ?_)
  obtain ⟨x1, x2⟩ := hd
  refine rn_bind (m_comes (by omega) hK hN (by omega) x1) (fun r hr => rn_some ?_)
  exact ⟨hr.1, x2.tr hr.2.1, hr.2.2⟩
def unf (R : Nat → Int32) (p : Nat) : Int32 := if R (9426 + 13 * p + 2) = 1 then -4 else if R (9426 + 13 * p) = 4 then -6 else 0
def sp_pair (R : Nat → Int32) (x x2 m : Int32) : Int32 × Option (Nat → Int32) := if ((x < 0 ∨ nI (nn R 3) ≤ x) ∨ (x2 < 0 ∨ nI (nn R 3) ≤ x2)) ∨ x = x2 ∨ (m < 0 ∨ 10000 < m) then (-2, none) else if nn R 3 = 12 then (-3, none) else if unf R x.toNatClampNeg = 0 then (if unf R x2.toNatClampNeg = 0 then (nI (nn R 3), some (comR (lvR (lvR R x.toNatClampNeg) x2.toNatClampNeg) 4 m x x2)) else (unf R x2.toNatClampNeg, none)) else (unf R x.toNatClampNeg, none)
theorem m_unfit (hK : KS sh z) (hA : AG (d.1 (z + 243)) R) (hp : p < 12) : f_X12_unfit N sh (z + 242) (nI p) d = some (unf R p) := by
  refine rn_val ?_
  unfold f_X12_unfit f_X12_unfit_43 unf
  refine rn_t (ks_o hK 242 12 rfl) ?_
  refine rdpl hK hA 2 hp (by decide) rfl ?_
  by_cases h1 : R (9426 + 13 * p + 2) = 1
  · rw [if_pos h1]
    exact rn_f (fun q => q h1) (rn_some rfl)
  rw [if_neg h1]
  refine rn_t h1 ?_
  refine rdpl hK hA 0 hp (by decide) rfl ?_
  by_cases h2 : R (9426 + 13 * p) = 4
  · rw [if_pos h2]
    exact rn_f (fun q => q h2) (rn_some rfl)
  · rw [if_neg h2]
    exact rn_t h2 (rn_some rfl)
theorem lvR_3 : nn (lvR R p) 3 = nn R 3 := by
  unfold nn
  rw [lvR_n (by omega)]
theorem m_pair {x x2 m : Int32} (hNf : 15642 < N) (hK : KS sh z) (h : RI d z R K u) (hR : WF R) : Rn (f_X12_pair N sh (z + 242) x x2 m d) (RO z R K u (sp_pair R x x2 m) d) := by
  have hN := hR.1
  have n3 := hN.2.2.2.1
  have bad : ((x < 0 ∨ nI (nn R 3) ≤ x) ∨ (x2 < 0 ∨ nI (nn R 3) ≤ x2)) ∨ x = x2 ∨ (m < 0 ∨ 10000 < m) → Rn (f_X12_pair_32 N sh (z + 242) d) (RO z R K u (sp_pair R x x2 m) d) := fun hb => by
    rw [show sp_pair R x x2 m = _ from if_pos hb]
    exact ro_refuses hK h rfl
  unfold f_X12_pair
  refine rn_t (ks_o hK 242 12 rfl) ?_
  refine rn_eq (ri_isPlough hK h hN) ?_
  refine rn_ite (fun h1 => bad (Or.inl (Or.inl (ite01.mp h1)))) (fun h1 => ?_)
  refine rn_eq (ri_isPlough hK h hN) ?_
  refine rn_ite (fun h2 => bad (Or.inl (Or.inr (ite01.mp h2)))) (fun h2 => ?_)
  refine rn_ite (fun h3 => bad (Or.inr (Or.inl h3))) (fun h3 => ?_)
  refine rn_eq m_in ?_
  refine rn_ite (fun h4 => ?_) (fun h4 => bad (Or.inr (Or.inr (ite01.mp (Decidable.of_not_not h4)))))
  have h1 : ¬ (x < 0 ∨ nI (nn R 3) ≤ x) := fun q => h1 (ite01.mpr q)
  have h2 : ¬ (x2 < 0 ∨ nI (nn R 3) ≤ x2) := fun q => h2 (ite01.mpr q)
  rw [show sp_pair R x x2 m = _ from if_neg (fun q => q.elim (fun q => q.elim h1 h2) (fun q => q.elim h3 (fun q => h4 (ite01.mpr q))))]
  obtain ⟨p, hp, rfl, e1⟩ := st_of (by omega) h1
  obtain ⟨q, hq, rfl, e2⟩ := st_of (by omega) h2
  rw [e1, e2]
  refine rdg hK h.1 3 rfl (by decide) ?_
  rw [n3.1]
  by_cases h6 : nn R 3 = 12
  · rw [if_pos h6]
    refine rn_f (fun q => q (by rw [h6]; rfl)) ?_
    exact ro_refuses hK h rfl
  rw [if_neg h6]
  refine rn_t (fun e => h6 (nI_inj (b := 12) e (by omega) (by decide))) ?_
  refine rn_eq (m_unfit hK h.1 (by omega)) ?_
  by_cases hu : unf R p = 0
  · refine rn_f (fun q => q hu) ?_
    refine rn_eq (m_unfit hK h.1 (by omega)) ?_
    unfold f_X12_pair_79
    by_cases hv : unf R q = 0
    · refine rn_t hv ?_
      rw [if_pos hu, if_pos hv]
      refine rn_bind (ri_keeps h hK hNf) (fun d1 hd => ?_)
      obtain ⟨x1, x2⟩ := hd
      refine rn_bind (m_leaves (by omega) hK hN (by omega) x1) (fun d2 hd2 => ?_)
      refine rn_bind (m_leaves (by omega) hK (lvR_wn hN) (by omega) hd2.2) (fun d3 hd3 => ?_)
      refine rn_bind (m_comes (by omega) hK (lvR_wn (lvR_wn hN)) (by rw [lvR_3, lvR_3]; omega) hd3.2) (fun r hr => rn_some ?_)
      rw [lvR_3, lvR_3] at hr
      exact ⟨hr.1, ((x2.tr hd2.1).tr hd3.1).tr hr.2.1, hr.2.2⟩
    · refine rn_f hv ?_
      rw [if_pos hu, if_neg hv]
      exact ro_refuses hK h rfl
  · refine rn_t hu ?_
    unfold f_X12_pair_79
    refine rn_f hu ?_
    rw [if_neg hu]
    exact ro_refuses hK h rfl
def sp_salt (R : Nat → Int32) (x t : Int32) : Int32 × Option (Nat → Int32) := if (x < 0 ∨ nI (nn R 3) ≤ x) ∨ (t < 0 ∨ nI (nn R 1) ≤ t) then (-2, none) else if R (9426 + 13 * x.toNatClampNeg + 2) = 1 then (-4, none) else if R (9426 + 13 * x.toNatClampNeg) = 2 then (thin (R (16 + 9 * t.toNatClampNeg + 0)) 50, some (va_up R (16 + 9 * t.toNatClampNeg + 0) (thin (R (16 + 9 * t.toNatClampNeg + 0)) 50))) else (-6, none)
theorem m_salt {x t : Int32} (hNf : 15642 < N) (hK : KS sh z) (h : RI d z R K u) (hR : WF R) : Rn (f_X12_salt N sh (z + 242) x t d) (RO z R K u (sp_salt R x t) d) := by
  have hN := hR.1
  have n3 := hN.2.2.2.1.2
  have n1 := hN.2.1.2
  unfold f_X12_salt f_X12_salt_16
  refine rn_t (ks_o hK 242 12 rfl) ?_
  refine rn_eq (ri_isPlough hK h hN) ?_
  by_cases hb : x < 0 ∨ nI (nn R 3) ≤ x
  · refine rn_t (ite01.mpr hb) ?_
    exact ro_refuses hK h (if_pos (Or.inl hb))
  refine rn_f (fun q => hb (ite01.mp q)) ?_
  refine rn_eq (ri_isStreet hK h hN) ?_
  by_cases hb2 : t < 0 ∨ nI (nn R 1) ≤ t
  · refine rn_f (fun q => q (ite01.mpr hb2)) ?_
    exact ro_refuses hK h (if_pos (Or.inr hb2))
  refine rn_t (fun q => hb2 (ite01.mp q)) ?_
  rw [show sp_salt R x t = _ from if_neg (fun q => q.elim hb hb2)]
  obtain ⟨p, hp, rfl, e1⟩ := st_of (by omega) hb
  obtain ⟨i, hi, rfl, e2⟩ := st_of (by omega) hb2
  rw [e1, e2]
  refine rdpl hK h.1 2 (by omega) (by decide) rfl ?_
  by_cases h1 : R (9426 + 13 * p + 2) = 1
  · rw [if_pos h1]
    refine rn_f (fun q => q h1) ?_
    exact ro_refuses hK h rfl
  rw [if_neg h1]
  refine rn_t h1 ?_
  refine rn_eq (m_kindOf hK h.1 (by omega)) ?_
  by_cases h2 : R (9426 + 13 * p) = 2
  · refine rn_t h2 ?_
    rw [if_pos h2]
    refine rn_bind (ri_keeps h hK hNf) (fun d1 hd => ?_)
    obtain ⟨x1, x2⟩ := hd
    refine rn_bind (m_thins hK hN x1 hi) (fun d2 hd2 => ?_)
    refine rds hK hd2.2.1 0 (by omega) (by decide) rfl ?_
    refine ro_done hK hd2.2 (x2.tr hd2.1) ?_
    rw [va_up_s]
  · refine rn_f h2 ?_
    rw [if_neg h2]
    exact ro_refuses hK h rfl
end PLO
/-! 9d.plk.lean.txt -/
/-! PLOUGHS of the class -/
section PLK
variable {s s' : AS} {sh : Sh} {d d' d0 : Dt} {z : Nat} {ow ow' : Nat → Nat} {R R' K : Nat → Int32} {u : Bool} {y : YL} {c c' N P P' p S : Nat} {q q' : BL} {yy : BL × (Nat → Nat) × Nat × Nat} {V : Nat → Nat → Int32} {L : Nat → Nat}
theorem wdn_cg (h : WDn R) (hN : WN R') (e : ∀ j, j ≠ 3 → j < 9426 ∨ 9582 ≤ j → R' j = R j) : WDn R' := by
  have n2 := h.1.2.2.1.2
  have en : ∀ j, j ≠ 3 → j < 9426 ∨ 9582 ≤ j → nn R' j = nn R j := fun j h1 h2 => by unfold nn; rw [e j h1 h2]
  refine ⟨hN, fun g hg => ?_, fun i hi => ?_⟩
  · rw [en 2 (by decide) (by omega)] at hg
    rw [e _ (by omega) (by omega), en _ (by omega) (by omega)]
    exact h.2.1 g hg
  · rw [en 4 (by decide) (by omega)] at hi
    rw [en 1 (by decide) (by omega), en _ (by omega) (by omega)]
    exact h.2.2 i hi
theorem pb_cg2 (h : PB sh d z ow R) (h3 : nn R' 3 = nn R 3) (hk : ∀ p x, x = 0 ∨ x = 3 ∨ x = 4 → R' (9426 + 13 * p + x) = R (9426 + 13 * p + x)) : PB sh d z ow R' := fun p hp => by
  rw [h3] at hp
  obtain ⟨a, h1, h2⟩ := h p hp
  have e0 : ∀ p, nn R' (9426 + 13 * p) = nn R (9426 + 13 * p) := fun p => by unfold nn; exact congrArg _ (hk p 0 (Or.inl rfl))
  have e3 : nn R' (9426 + 13 * p + 3) = nn R (9426 + 13 * p + 3) := by unfold nn; rw [hk p 3 (Or.inr (Or.inl rfl))]
  have e4 : nn R' (9426 + 13 * p + 4) = nn R (9426 + 13 * p + 4) := by unfold nn; rw [hk p 4 (Or.inr (Or.inr rfl))]
  refine ⟨a, h1, ?_⟩
  rw [e3, e4, e0, e0, e0]
  exact h2
theorem lp_vP {c i : Nat} (hc : c < 9) : vP (lpR R p) c i = if i = p ∧ c ≠ 5 ∧ c ≠ 6 then 0 else vP R c i := by
  by_cases hi : i = p
  · subst hi
    have z5 : ∀ x, 5 ≤ x → x < 13 → lpR R i (9426 + 13 * i + x) = 0 := fun x h1 h2 => zr_in (by omega)
    have zz : ∀ x, x < 5 → lpR R i (9426 + 13 * i + x) = R (9426 + 13 * i + x) := fun x h => lpR_n (by omega)
    have hc9 : c = 0 ∨ c = 1 ∨ c = 2 ∨ c = 3 ∨ c = 4 ∨ c = 5 ∨ c = 6 ∨ c = 7 ∨ c = 8 := by omega
    rcases hc9 with rfl | rfl | rfl | rfl | rfl | rfl | rfl | rfl | rfl
    · exact (z5 6 (by omega) (by omega)).trans (if_pos ⟨rfl, by decide, by decide⟩).symm
    · exact (z5 7 (by omega) (by omega)).trans (if_pos ⟨rfl, by decide, by decide⟩).symm
    · exact (z5 8 (by omega) (by omega)).trans (if_pos ⟨rfl, by decide, by decide⟩).symm
    · exact (z5 9 (by omega) (by omega)).trans (if_pos ⟨rfl, by decide, by decide⟩).symm
    · exact (z5 10 (by omega) (by omega)).trans (if_pos ⟨rfl, by decide, by decide⟩).symm
    · exact (zz 1 (by omega)).trans (if_neg (fun q => q.2.1 rfl)).symm
    · rw [if_neg (fun q => q.2.2 rfl)]
      show (if lpR R i (9426 + 13 * i + 2) = 1 then -1 else lpR R i (9426 + 13 * i + 0)) = (if R (9426 + 13 * i + 2) = 1 then -1 else R (9426 + 13 * i + 0))
      rw [zz 2 (by omega), zz 0 (by omega)]
    · exact (z5 11 (by omega) (by omega)).trans (if_pos ⟨rfl, by decide, by decide⟩).symm
    · exact (z5 12 (by omega) (by omega)).trans (if_pos ⟨rfl, by decide, by decide⟩).symm
  · rw [if_neg (fun q => hi q.1)]
    have e : ∀ x, x < 13 → lpR R p (9426 + 13 * i + x) = R (9426 + 13 * i + x) := fun x hx => lpR_n (by omega)
    unfold vP
    simp only [e 6 (by omega), e 7 (by omega), e 8 (by omega), e 9 (by omega), e 10 (by omega), e 1 (by omega), e 2 (by omega), show lpR R p (9426 + 13 * i) = R (9426 + 13 * i) from e 0 (by omega), e 11 (by omega), e 12 (by omega)]
theorem lv_lp {j : Nat} (h : j ≠ 9426 + 13 * p + 2) : lvR R p j = lpR R p j := by
  unfold lvR lpR zrF
  rw [va_up_n h]
theorem lv_vP {c i : Nat} : vP (lvR R p) c i = if c = 6 ∧ i = p then -1 else vP (lpR R p) c i := by
  by_cases h : c = 6 ∧ i = p
  · obtain ⟨rfl, rfl⟩ := h
    rw [if_pos ⟨rfl, rfl⟩]
    show (if lvR R i (9426 + 13 * i + 2) = 1 then -1 else lvR R i (9426 + 13 * i)) = -1
    rw [lvR_2]
    exact if_pos rfl
  · rw [if_neg h]
    unfold vP
    simp only [lv_lp (p := p) (R := R) (show 9426 + 13 * i + 6 ≠ 9426 + 13 * p + 2 by omega), lv_lp (p := p) (R := R) (show 9426 + 13 * i + 7 ≠ 9426 + 13 * p + 2 by omega), lv_lp (p := p) (R := R) (show 9426 + 13 * i + 8 ≠ 9426 + 13 * p + 2 by omega), lv_lp (p := p) (R := R) (show 9426 + 13 * i + 9 ≠ 9426 + 13 * p + 2 by omega), lv_lp (p := p) (R := R) (show 9426 + 13 * i + 10 ≠ 9426 + 13 * p + 2 by omega), lv_lp (p := p) (R := R) (show 9426 + 13 * i + 1 ≠ 9426 + 13 * p + 2 by omega), lv_lp (p := p) (R := R) (show 9426 + 13 * i ≠ 9426 + 13 * p + 2 by omega), lv_lp (p := p) (R := R) (show 9426 + 13 * i + 11 ≠ 9426 + 13 * p + 2 by omega), lv_lp (p := p) (R := R) (show 9426 + 13 * i + 12 ≠ 9426 + 13 * p + 2 by omega)]
    by_cases h6 : c = 6
    · have hi : i ≠ p := fun e => h ⟨h6, e⟩
      rw [lv_lp (p := p) (R := R) (show 9426 + 13 * i + 2 ≠ 9426 + 13 * p + 2 by omega)]
    · simp only [if_neg h6]
theorem drop_loop (hK : KS sh z) (hw : OWS ow z) (hp : p < S) : ∀ (m k fu : Nat) (d : Dt), k + m = 9 → m < fu → TB sh d z ow 20 9 S (fun c i => if i = p ∧ c < k ∧ c ≠ 5 ∧ c ≠ 6 then 0 else V c i) L → FD (IX z ow 20 21) d0 d → Rn (f_X1_dropPart_2 N sh fu (z + 3) (nI p) (nI k) d) (fun d' => FD (IX z ow 20 21) d0 d' ∧ TB sh d' z ow 20 9 S (fun c i => if i = p ∧ c ≠ 5 ∧ c ≠ 6 then 0 else V c i) L)
  | 0, k, fu, d, hk, hf, hT, hF => by
    obtain ⟨fu, rfl⟩ : ∃ q, fu = q + 1 := ⟨fu - 1, by omega⟩
    show Rn (g_X1_dropPart_2 N sh (f_X1_dropPart_2 N sh fu) (z + 3) (nI p) (nI k) d) _
    unfold g_X1_dropPart_2 f_X1_dropPart_35
    have ek : k = 9 := by omega
    subst ek
    refine rn_t (by decide) (rn_some ⟨hF, tb_congr hT (fun c i hc hi => ?_)⟩)
    by_cases h : i = p ∧ c ≠ 5 ∧ c ≠ 6
    · rw [if_pos h, if_pos ⟨h.1, hc, h.2⟩]
    · rw [if_neg h, if_neg (fun q => h ⟨q.1, q.2.2⟩)]
  | m + 1, k, fu, d, hk, hf, hT, hF => by
    obtain ⟨fu, rfl⟩ : ∃ q, fu = q + 1 := ⟨fu - 1, by omega⟩
    have ih := drop_loop hK hw hp m (k + 1) fu
    show Rn (g_X1_dropPart_2 N sh (f_X1_dropPart_2 N sh fu) (z + 3) (nI p) (nI k) d) _
    unfold g_X1_dropPart_2 f_X1_dropPart_29
    refine rn_f (nI_ge (a := k) (b := 9) (by omega) (by decide)) ?_
    rw [nI_1]
    have skip : k = 5 ∨ k = 6 → Rn (f_X1_dropPart_2 N sh fu (z + 3) (nI p) (nI (k + 1)) d) (fun d' => FD (IX z ow 20 21) d0 d' ∧ TB sh d' z ow 20 9 S (fun c i => if i = p ∧ c ≠ 5 ∧ c ≠ 6 then 0 else V c i) L) := fun hs => by
      refine ih d (by omega) (by omega) (tb_congr hT (fun c i hc hi => ?_)) hF
      by_cases h : i = p ∧ c < k ∧ c ≠ 5 ∧ c ≠ 6
      · rw [if_pos h, if_pos ⟨h.1, by omega, h.2.2⟩]
      · rw [if_neg h, if_neg (fun q => h ⟨q.1, by omega, q.2.2⟩)]
    refine rn_ite (fun h5 => skip (Or.inl (nI_inj (b := 5) h5 (by omega) (by decide)))) (fun h5 => ?_)
    refine rn_ite (fun h6 => skip (Or.inr (nI_inj (b := 6) h6 (by omega) (by decide)))) (fun h6 => ?_)
    have h5 : k ≠ 5 := fun e => h5 (by rw [e]; rfl)
    have h6 : k ≠ 6 := fun e => h6 (by rw [e]; rfl)
    refine r_gP hK 3 1 3 20 rfl (by decide) ?_
    refine rn_bind (tb_put (o := 20) (nc := 9) (c := k) hK hw (by decide) hT rfl hp rfl (by omega)) (fun d1 hd => ?_)
    refine ih d1 (by omega) (by omega) (tb_congr hd.1 (fun c i hc hi => ?_)) (hF.tr (hd.2.mono (fun a ha => tx_ix (nc := 9) (by decide) hw ha)))
    by_cases h : c = k ∧ i = p
    · rw [if_pos h, if_pos ⟨h.2, by omega, by omega, by omega⟩]
    · rw [if_neg h]
      by_cases h2 : i = p ∧ c < k ∧ c ≠ 5 ∧ c ≠ 6
      · rw [if_pos h2, if_pos ⟨h2.1, by omega, h2.2.2⟩]
      · rw [if_neg h2, if_neg (fun q => h2 ⟨q.1, by
          have : c ≠ k := fun e => h ⟨e, q.1⟩
          omega, q.2.2⟩)]
theorem k_dropPart (hN1 : 100 ≤ N) (hR : WDn R) (hK : KS sh z) (hw : OWS ow z) (h : BK sh d z ow 3 R q) (hp : p < nn R 3) : Rn (f_X1_dropPart N sh (z + 3) (nI p) d) (fun d' => FD (IX z ow 20 21) d d' ∧ BK sh d' z ow 3 (lpR R p) q) := by
  have n3 := hR.1.2.2.2.1.2
  unfold f_X1_dropPart
  refine rn_t (ks_o hK 3 1 rfl) ?_
  have h0 : TB sh d z ow 20 9 (nn R 3) (fun c i => if i = p ∧ c < 0 ∧ c ≠ 5 ∧ c ≠ 6 then 0 else vP R c i) q.2.2.1 := tb_congr h.2.2.2.1 (fun c i _ _ => if_neg (fun q => absurd q.2.1 (Nat.not_lt_zero c)))
  refine rn_mono (drop_loop (d0 := d) hK hw hp 9 0 N d (by omega) (by omega) h0 FD.rf) (fun d' hd => ⟨hd.1, ?_⟩)
  have e3 : nn (lpR R p) 3 = nn R 3 := by unfold nn; rw [lpR_n (by omega)]
  refine bk_P (s := (sh, d)) (s' := (sh, d')) (L' := q.2.2.1) hR (Or.inl rfl) hK hw h hd.1.es ?_ h.2.2.2.2.2.2.2.2.2.1 (fun k _ hk => lpR_n (by omega))
  rw [e3]
  exact tb_congr hd.2 (fun c i hc hi => lp_vP hc)
theorem k_sendOut (hN1 : 100 ≤ N) (hR : WDn R) (hK : KS sh z) (hw : OWS ow z) (h : BK sh d z ow 3 R q) (hp : p < nn R 3) : Rn (f_X1_sendOut N sh (z + 3) (nI p) d) (fun d' => FD (IX z ow 20 21) d d' ∧ BK sh d' z ow 3 (lvR R p) q) := by
  have n3 := hR.1.2.2.2.1.2
  have e3 : nn (lpR R p) 3 = nn R 3 := by unfold nn; rw [lpR_n (by omega)]
  unfold f_X1_sendOut
  refine rn_t (ks_o hK 3 1 rfl) ?_
  refine rn_bind (k_dropPart hN1 hR hK hw h hp) (fun d1 hd => ?_)
  refine r_gP hK 3 1 3 20 rfl (by decide) ?_
  refine rn_bind (tb_put (o := 20) (nc := 9) (c := 6) hK hw (by decide) hd.2.2.2.2.1 rfl (by rw [e3]; exact hp) rfl (by decide)) (fun d2 hd2 => rn_some ?_)
  have f2 : FD (IX z ow 20 21) d1 d2 := hd2.2.mono (fun a ha => tx_ix (nc := 9) (by decide) hw ha)
  refine ⟨hd.1.tr f2, ?_⟩
  have hR1 : WDn (lpR R p) := wdn_cg hR (zr_wn hR.1 (by omega) 8) (fun j _ hj => lpR_n (by omega))
  refine bk_P (s := (sh, d1)) (s' := (sh, d2)) (L' := q.2.2.1) hR1 (Or.inl rfl) hK hw hd.2 f2.es ?_ h.2.2.2.2.2.2.2.2.2.1 (fun k _ hk => lv_lp (by omega))
  have e4 : nn (lvR R p) 3 = nn (lpR R p) 3 := by unfold nn; rw [lv_lp (by omega)]
  rw [e4]
  exact tb_congr hd2.1 (fun c i hc hi => lv_vP)
theorem lvR_pb (h : PB sh d z ow R) : PB sh d z ow (lvR R p) := pb_cg2 h lvR_3 (fun p' x hx => by
  by_cases e : p' = p
  · subst e
    exact lvR_k (by omega) (by omega)
  · exact lvR_n (by omega))
theorem k_out {x : Int32} (hNf : 300 ≤ N) (h : CI s z ow R K u y c) (hR : WF R) (hKF : WF K) : Rn (f_X11_out N z x s) (KO z R K u c (sp_out R x) s) := by
  have hK := h.1
  have hN := hR.1
  have n3 := hN.2.2.2.1.2
  have hB : BK s.1 s.2 z ow 3 R y.1 := h.2.2.1
  unfold f_X11_out
  refine rn_t (ks_o hK 0 11 rfl) ?_
  refine r_gP hK 0 11 1 3 rfl (by decide) ?_
  refine r_gP hK 3 1 3 20 rfl (by decide) ?_
  refine rn_eq (tb_has (o := 20) (nc := 9) hK (by decide) hB.2.2.2.1) ?_
  by_cases hb : x < 0 ∨ nI (nn R 3) ≤ x
  · rw [show sp_out R x = _ from if_pos hb]
    refine rn_f (fun q => q (ite01.mpr hb)) ?_
    refine rn_bind (k_refuse hK) (fun r hr => rn_some ?_)
    exact ko_lg h hr rfl
  rw [show sp_out R x = _ from if_neg hb]
  refine rn_t (fun q => hb (ite01.mp q)) ?_
  obtain ⟨p, hp, rfl, e2⟩ := st_of (by omega) hb
  rw [e2]
  refine r_gP hK 0 11 1 3 rfl (by decide) ?_
  refine rn_eq (k_isOut (Or.inl rfl) hR hK hB.2.2.2.1 hp) ?_
  refine rn_bind (ci_change (by omega) h hR.1 hR.2.1 hKF.1) (fun s1 hs => ?_)
  obtain ⟨f1, g1, g2, g3, ow1, y1, -, c1⟩ := hs
  have hK1 := c1.1
  unfold f_X11_out_34 f_X11_out_52
  refine r_gP hK1 0 11 1 3 rfl (by decide) ?_
  refine rn_bind (k_sendOut (by omega) (wdn_of hR) hK1 c1.2.1 c1.2.2.1 hp) (fun d1 hd => ?_)
  have qn := ci_new c1 g1 g2 g3 (hd.1.mono (fun a ha => ix_mono ha (by omega) (by omega))) hd.2 (lvR_pb c1.2.2.2.2.2.1)
  by_cases h1 : R (9426 + 13 * p + 2) = 1
  · rw [if_pos h1, if_pos h1]
    refine rn_f (by decide) ?_
    refine rn_bind (k_answer hK1) (fun r hr => rn_some ?_)
    have q3 := ci_lg qn.1 hr.2
    exact ⟨hr.1, (f1.tr qn.2).tr q3.2, ow1, _, q3.1⟩
  · rw [if_neg h1, if_neg h1]
    refine rn_t rfl ?_
    refine rn_bind (k_answer hK1) (fun r hr => rn_some ?_)
    have q3 := ci_lg qn.1 hr.2
    exact ⟨hr.1, (f1.tr qn.2).tr q3.2, ow1, _, q3.1⟩
theorem k_salt {x t : Int32} (hNf : 300 ≤ N) (h : CI s z ow R K u y c) (hR : WF R) (hKF : WF K) : Rn (f_X11_salt N z x t s) (KO z R K u c (sp_salt R x t) s) := by
  have hK := h.1
  have hN := hR.1
  have n3 := hN.2.2.2.1.2
  have n1 := hN.2.1.2
  have hB : BK s.1 s.2 z ow 3 R y.1 := h.2.2.1
  have bad : (x < 0 ∨ nI (nn R 3) ≤ x) ∨ (t < 0 ∨ nI (nn R 1) ≤ t) → Rn (f_X11_salt_28 N z s) (KO z R K u c (sp_salt R x t) s) := fun hb => by
    rw [show sp_salt R x t = _ from if_pos hb]
    unfold f_X11_salt_28
    refine rn_bind (k_refuse hK) (fun r hr => rn_some ?_)
    exact ko_lg h hr rfl
  unfold f_X11_salt
  refine rn_t (ks_o hK 0 11 rfl) ?_
  refine r_gP hK 0 11 1 3 rfl (by decide) ?_
  refine r_gP hK 3 1 3 20 rfl (by decide) ?_
  refine rn_eq (tb_has (o := 20) (nc := 9) hK (by decide) hB.2.2.2.1) ?_
  refine rn_ite (fun h1 => bad (Or.inl (ite01.mp h1))) (fun h1 => ?_)
  refine r_gP hK 0 11 1 3 rfl (by decide) ?_
  refine r_gP hK 3 1 1 4 rfl (by decide) ?_
  refine rn_eq (tb_has (o := 4) (nc := 9) hK (by decide) hB.2.1) ?_
  refine rn_ite (fun h2 => ?_) (fun h2 => bad (Or.inr (ite01.mp (Decidable.of_not_not h2))))
  have h1 : ¬ (x < 0 ∨ nI (nn R 3) ≤ x) := fun q => h1 (ite01.mpr q)
  have h2 : ¬ (t < 0 ∨ nI (nn R 1) ≤ t) := fun q => h2 (ite01.mpr q)
  rw [show sp_salt R x t = _ from if_neg (fun q => q.elim h1 h2)]
  obtain ⟨p, hp, rfl, e1⟩ := st_of (by omega) h1
  obtain ⟨i, hi, rfl, e2⟩ := st_of (by omega) h2
  rw [e1, e2]
  refine r_gP hK 0 11 1 3 rfl (by decide) ?_
  refine rn_eq (k_isOut (Or.inl rfl) hR hK hB.2.2.2.1 hp) ?_
  by_cases h3 : R (9426 + 13 * p + 2) = 1
  · rw [if_pos h3, if_pos h3]
    refine rn_f (by decide) ?_
    refine rn_bind (k_refuse hK) (fun r hr => rn_some ?_)
    exact ko_lg h hr rfl
  rw [if_neg h3, if_neg h3]
  refine rn_t rfl ?_
  obtain ⟨a, a1, a2, a3, -⟩ := k_body hK h.2.2.2.2.2.1 hp hN
  refine r_gP hK 0 11 6 235 rfl (by decide) ?_
  refine rn_eq a1 ?_
  refine rn_eq a2 ?_
  have w := (hR.2.2.2.2.1 p hp).1
  by_cases h4 : nn R (9426 + 13 * p) = 2
  · rw [if_pos h4, if_pos (show R (9426 + 13 * p) = 2 by rw [w.1, h4]; rfl)]
    refine rn_t (by decide) ?_
    refine rn_bind (ci_change (by omega) h hR.1 hR.2.1 hKF.1) (fun s1 hs => ?_)
    obtain ⟨f1, g1, g2, g3, ow1, y1, -, c1⟩ := hs
    have hK1 := c1.1
    unfold f_X11_salt_76
    refine r_gP hK1 0 11 1 3 rfl (by decide) ?_
    refine rn_bind (k_lessDrift hK1 c1.2.1 hN c1.2.2.1 hi) (fun d1 hd => ?_)
    refine r_gP hK1 0 11 1 3 rfl (by decide) ?_
    refine r_gP hK1 3 1 1 4 rfl (by decide) ?_
    refine rn_eq (tb_get (o := 4) (nc := 9) (c := 0) hK1 (by decide) hd.2.2.1 rfl (by rw [nn_up (by omega)]; exact hi) rfl (by decide)) ?_
    have ev : vS (va_up R (16 + 9 * i + 0) (thin (R (16 + 9 * i + 0)) 50)) 0 i = thin (R (16 + 9 * i + 0)) 50 := va_up_s
    rw [ev]
    have qn := ci_new c1 g1 g2 g3 (hd.1.mono (fun a ha => ix_mono ha (by omega) (by omega))) hd.2 (pb_congr c1.2.2.2.2.2.1 (va_up_n (by omega)) (fun j hj => va_up_n (by omega)))
    refine rn_bind (k_answer hK1) (fun r hr => rn_some ?_)
    have q3 := ci_lg qn.1 hr.2
    exact ⟨hr.1, (f1.tr qn.2).tr q3.2, ow1, _, q3.1⟩
  · rw [if_neg h4, if_neg (show ¬ R (9426 + 13 * p) = 2 from fun e => h4 (nI_inj (b := 2) (w.1.symm.trans e) (by omega) (by decide)))]
    refine rn_f (fun q => q rfl) ?_
    refine rn_bind (k_refuse hK) (fun r hr => rn_some ?_)
    exact ko_lg h hr rfl
end PLK
