/-! way(), wayAt(): they run, and keep what stands -/
def KR (z : Nat) (R K : Nat → Int32) (u : Bool) (c : Nat) (s : AS) (r : Int32 × Dt) : Prop := KD z R K u c (r.1, none) s r
def RR (z : Nat) (R K : Nat → Int32) (u : Bool) (d : Dt) (r : Int32 × Dt) : Prop := RO z R K u (r.1, none) d r
section WW
variable {s : AS} {sh : Sh} {d d0 d' : Dt} {z : Nat} {ow : Nat → Nat} {R K : Nat → Int32} {u : Bool} {y : YL} {c N : Nat}
theorem kr_lg {r : Int32 × Dt} {d1 : Dt} {v : Int32} (h : CI (s.1, d1) z ow R K u y c) (hf : RFR z s (s.1, d1)) (hr : r.1 = v ∧ LG z d1 r.2) : KR z R K u c s r := by
  have q := ci_lg (s := (s.1, d1)) h hr.2
  exact ⟨rfl, hf.tr q.2, ow, y, q.1⟩
theorem rr_refuses {v : Int32} (hK : KS sh z) (h : RI d z R K u) (hm : MFR z d0 d) : Rn ((f_X12_refuses N sh (z + 242) v d).bind fun r => some (r.1, r.2)) (RR z R K u d0) := by
  refine rn_bind (m_refuses hK) (fun r hr => ?_)
  exact rn_some ⟨rfl, hm.tr hr.2.mfr, ri_rg h hr.2⟩
theorem rr_says {v : Int32} (hK : KS sh z) (h : RI d z R K u) (hm : MFR z d0 d) : Rn ((f_X12_says N sh (z + 242) v d).bind fun r => some (r.1, r.2)) (RR z R K u d0) := by
  refine rn_eq (m_says hK) ?_
  exact rn_some ⟨rfl, hm.tr (MFR.wI (by decide) (by decide)), ri_rg h (RG.w242 (Or.inl rfl))⟩
theorem m_way {x x2 : Int32} (hNf : 2 ^ 40 ≤ N) (hK : KS sh z) (h : RI d z R K u) (hR : WF R) : Rn (f_X12_way N sh (z + 242) x x2 d) (RR z R K u d) := by
  have n0 := hR.1.1.2
  have hF := ks_a hK 247 0 3600 rfl
  unfold f_X12_way
  refine rn_t (ks_o hK 242 12 rfl) ?_
  refine rn_eq (ri_isCrossing hK h hR.1) ?_
  refine rn_ite (fun h1 => rr_refuses hK h MFR.rf) (fun h1 => ?_)
  obtain ⟨a, ha, rfl, -⟩ := st_of (by omega) (fun q => h1 (ite01.mpr q))
  refine rn_eq (ri_isCrossing hK h hR.1) ?_
  refine rn_ite (fun h2 => ?_) (fun h2 => rr_refuses hK h MFR.rf)
  obtain ⟨b, hb, rfl, -⟩ := st_of (by omega) (fun q => h2 (ite01.mpr q))
  refine rn_bind (m_reckon hNf hK h hR) (fun d1 hd => ?_)
  obtain ⟨k1, k2, k3⟩ := hd
  refine r_gP hK 242 12 9 247 rfl (by decide) ?_
  refine rn_eq (q_aT hF (60 * a + b) (ix_far a b) (by omega) (by decide)) ?_
  refine rn_ite (fun h3 => ?_) (fun h3 => rr_refuses hK k2 k1.mfr)
  refine r_gP hK 242 12 9 247 rfl (by decide) ?_
  refine rn_eq (q_aT hF (60 * a + b) (ix_far a b) (by omega) (by decide)) ?_
  exact rr_says hK k2 k1.mfr
theorem wayAt_loop {b : Nat} {l3 : Int32} (hN1 : 151 ≤ N) (hK : KS sh z) (h : RI d z R K u) (hR : WF R) (hm : MFR z d0 d) (hfar : ∀ a b, a < nn R 0 → b < nn R 0 → dOK R 268435456 a b (d.1 (z + 247) (60 * a + b))) (hb : b < nn R 0) : ∀ (k a fu : Nat) (l5 : Int32), rk R b k a → a < nn R 0 → k < fu → Rn (f_X12_wayAt_56 N sh fu (z + 242) (nI b) l3 (nI a) l5 d) (RR z R K u d0)
  | k, a, 0, l5, hk, ha, hf => absurd hf (Nat.not_lt_zero k)
  | 0, a, fu + 1, l5, hk, ha, hf => by
    show Rn (g_X12_wayAt_56 N sh (f_X12_wayAt_56 N sh fu) (z + 242) (nI b) l3 (nI a) l5 d) _
    unfold g_X12_wayAt_56
    refine rn_ite (fun _ => rr_says hK h hm) (fun _ => ?_)
    have hk : a = b := hk
    exact rn_t (by rw [hk]) (rr_says hK h hm)
  | k + 1, a, fu + 1, l5, hk, ha, hf => by
    have n0 := hR.1.1.2
    have n1 := hR.1.2.1.2
    have ih := wayAt_loop (l3 := l3) hN1 hK h hR hm hfar hb k
    show Rn (g_X12_wayAt_56 N sh (f_X12_wayAt_56 N sh fu) (z + 242) (nI b) l3 (nI a) l5 d) _
    unfold g_X12_wayAt_56
    refine rn_ite (fun _ => rr_says hK h hm) (fun _ => ?_)
    refine rn_ite (fun _ => rr_says hK h hm) (fun h2 => ?_)
    have hne : a ≠ b := fun e => h2 (by rw [e])
    obtain ⟨⟨n, hd⟩, hq, hr⟩ := hk.resolve_left hne
    have hs := hq.1.2.1.1
    refine rn_eq (m_onTo hN1 hK hR.1 hR.2.2.1 h.1 hfar ha hb hd hne) ?_
    refine rn_ite (fun h3 => ?_) (fun h3 => rr_says hK h hm)
    refine rn_eq (m_leads hK h.1 (by omega)) ?_
    rw [nxt_leads hR.2.2.1 hR.1 ha hq]
    exact ih _ fu _ hr hq.1.1 (by omega)
theorem m_wayAt {x x2 i : Int32} (hNf : 2 ^ 40 ≤ N) (hK : KS sh z) (h : RI d z R K u) (hR : WF R) : Rn (f_X12_wayAt N sh (z + 242) x x2 i d) (RR z R K u d) := by
  have n0 := hR.1.1.2
  have hF := ks_a hK 247 0 3600 rfl
  unfold f_X12_wayAt
  refine rn_t (ks_o hK 242 12 rfl) ?_
  refine rn_eq (ri_isCrossing hK h hR.1) ?_
  refine rn_ite (fun h1 => rr_refuses hK h MFR.rf) (fun h1 => ?_)
  obtain ⟨a, ha, rfl, -⟩ := st_of (by omega) (fun q => h1 (ite01.mpr q))
  refine rn_eq (ri_isCrossing hK h hR.1) ?_
  refine rn_ite (fun h2 => ?_) (fun h2 => rr_refuses hK h MFR.rf)
  obtain ⟨b, hb, rfl, -⟩ := st_of (by omega) (fun q => h2 (ite01.mpr q))
  refine rn_bind (m_reckon hNf hK h hR) (fun d1 hd => ?_)
  obtain ⟨k1, k2, k3⟩ := hd
  refine r_gP hK 242 12 9 247 rfl (by decide) ?_
  refine rn_eq (q_aT hF (60 * a + b) (ix_far a b) (by omega) (by decide)) ?_
  refine rn_ite (fun h3 => ?_) (fun h3 => rr_refuses hK k2 k1.mfr)
  rcases k3 a b ha hb with ⟨n, q1, q2, q3⟩ | ⟨q1, q2⟩
  · exact wayAt_loop (by omega) hK k2 hR k1.mfr k3 hb 60 a N i (rk_60 hR.2.2.1 hR.1 q1) ha (by omega)
  · rw [q2] at h3
    exact absurd h3 (by decide)
/-! the class -/
theorem k_hasCrossing {v : Int32} (hK : KS sh z) (hR0 : d.1 (z + 3) 0 = R 0) (hN : WN R) : f_X1_hasCrossing N sh (z + 3) v d = some (if v < 0 ∨ nI (nn R 0) ≤ v then 0 else 1) := by
  refine rn_val ?_
  unfold f_X1_hasCrossing
  refine rn_t (ks_o hK 3 1 rfl) ?_
  refine rn_ite (fun h0 => ?_) (fun h0 => ?_)
  · rw [if_pos (Or.inl h0)]
    exact ⟨0, rfl, rfl⟩
  · refine r_gI hK (i := 3) (c := 1) rfl ?_
    rw [hR0, hN.1.1]
    refine rn_ite (fun h1 => ?_) (fun h1 => ?_)
    · rw [if_pos (Or.inr h1)]
      exact ⟨0, rfl, rfl⟩
    · rw [if_neg (fun q => q.elim h0 h1)]
      exact ⟨1, rfl, rfl⟩
theorem CI.spn (h : CI s z ow R K u y c) : SPN s.2 z := ⟨h.2.2.2.2.1.1.1, h.2.2.2.2.1.1.2.1⟩
/-- THE WAYS are measured: what is known then -/
theorem ci_each {goals : Int64} (hN2 : 300 ≤ N) (h : CI s z ow R K u y c) (hR : WF R) (hgo : ∀ j, bit goals j = true → j < nn R 0) : Rn (f_X10_measureEach N s.1 (z + 77) goals s.2) (fun d' => CI (s.1, d') z ow R K u y c ∧ RFR z s (s.1, d') ∧ EAQ z R goals s.2 d') := by
  refine rn_mono (k_measureEach hN2 h.1 h.2.1 hR.1 hR.2.2.1 h.spn h.2.2.1.2.1 h.2.2.2.2.2.2.2.1 h.2.2.1.1 hgo) (fun d' hd => ?_)
  have q := ci_wy h hd.1 (Or.inr ⟨hd.2.1, hd.2.2.1, hd.2.2.2.1⟩)
  exact ⟨q.1, q.2, hd⟩
theorem k_otherEnd {i a : Nat} (hK : KS sh z) {L : Nat → Nat} (hT : TB sh d z ow 4 9 (nn R 1) (vS R) L) (hi : i < nn R 1) : f_X1_otherEnd N sh (z + 3) (nI i) (nI a) d = some (if R (16 + 9 * i + 7) = nI a then R (16 + 9 * i + 8) else R (16 + 9 * i + 7)) := by
  refine rn_val ?_
  unfold f_X1_otherEnd
  refine rn_t (ks_o hK 3 1 rfl) ?_
  refine r_gP hK 3 1 1 4 rfl (by decide) ?_
  refine rn_eq (tb_get (o := 4) (nc := 9) (c := 7) hK (by decide) hT rfl hi rfl (by decide)) ?_
  have e7 : vS R 7 i = R (16 + 9 * i + 7) := rfl
  rw [e7]
  refine rn_ite (fun h1 => ?_) (fun h1 => ?_)
  · rw [if_neg h1]
    exact ⟨_, rfl, rfl⟩
  · rw [if_pos (Decidable.of_not_not h1)]
    refine r_gP hK 3 1 1 4 rfl (by decide) ?_
    refine rn_eq (tb_get (o := 4) (nc := 9) (c := 8) hK (by decide) hT rfl hi rfl (by decide)) ?_
    exact ⟨_, rfl, rfl⟩
/-- the other end of a STREET that leads -/
theorem oth_edge {i a e : Nat} (hW : WS R) (hN : WN R) (ha : a < nn R 0) (he9 : e < nn R 0) (he : edge R i a e) : (if R (16 + 9 * i + 7) = nI a then R (16 + 9 * i + 8) else R (16 + 9 * i + 7)) = nI e := by
  have n0 := hN.1.2
  obtain ⟨⟨ea, eb, ea2, eb2, hne, e7, e8⟩, -⟩ := hW i he.1
  rw [e7, e8]
  rcases (edge_iff (x := a) (y := e) he.1 he.2.1 e7 e8 (by omega) (by omega) (by omega) (by omega)).mp he with ⟨rfl, rfl⟩ | ⟨_, rfl, rfl⟩
  · rw [if_pos rfl]
  · rw [if_neg (fun q => hne (nI_inj q (by omega) (by omega)))]
theorem streetAt_loop {b : Nat} {l3 : Int32} {L : Nat → Nat} (hN2 : 300 ≤ N) (hK : KS sh z) (hR : WF R) (hS : SPN d z) (hT : TB sh d z ow 4 9 (nn R 1) (vS R) L) (hH : HopOK d z R) (hb : b < nn R 0) (hgb : ∀ a, a < 60 → dOK R 1000000000 a b (d.1 (z + (141 + b)) a)) (hl : l3 < 60) : ∀ (p k fu a : Nat) (l5 : Int32), k + p = 60 → p < fu → a < nn R 0 → (l5 = -1 ∨ (l5 = nI (nxt R b a).1 ∧ nxS R b a (nxt R b a).1 (nxt R b a).2)) → Rn (f_X10_streetAt_27 N sh d fu (z + 77) (nI b) l3 (nI a) l5 (nI k)) (fun _ => True)
  | 0, k, fu, a, l5, hk, hf, ha, h5 => by
    obtain ⟨fu, rfl⟩ : ∃ q, fu = q + 1 := ⟨fu - 1, by omega⟩
    show Rn (g_X10_streetAt_27 N sh (f_X10_streetAt_27 N sh d fu) (z + 77) (nI b) l3 (nI a) l5 (nI k) d) _
    unfold g_X10_streetAt_27
    have e : k = 60 := by omega
    subst e
    exact rn_t (Int32.le_of_lt hl) (rn_some trivial)
  | p + 1, k, fu, a, l5, hk, hf, ha, h5 => by
    obtain ⟨fu, rfl⟩ : ∃ q, fu = q + 1 := ⟨fu - 1, by omega⟩
    have n0 := hR.1.1.2
    have n1 := hR.1.2.1.2
    have ih := streetAt_loop hN2 hK hR hS hT hH hb hgb hl p (k + 1) fu
    show Rn (g_X10_streetAt_27 N sh (f_X10_streetAt_27 N sh d fu) (z + 77) (nI b) l3 (nI a) l5 (nI k) d) _
    unfold g_X10_streetAt_27
    refine rn_ite (fun _ => rn_some trivial) (fun h1 => ?_)
    refine rn_ite (fun _ => rn_some trivial) (fun h2 => ?_)
    obtain ⟨e5, hq⟩ := h5.resolve_left h2
    obtain ⟨t1, t2, n', m', t3, t4, t5⟩ := hq.1
    have hs := t2.1
    rw [e5]
    refine r_gP hK 77 10 0 3 rfl (by decide) ?_
    refine rn_eq (k_otherEnd hK hT hs) ?_
    rw [oth_edge hR.2.2.1 hR.1 ha t1 t2]
    have kn := k_nextStreet (N := N) hN2 hK hR.1 hR.2.2.1 hS hT hH hb hgb t1
    rw [nI_1]
    by_cases e : (nxt R b a).2 = b
    · refine rn_eq (kn.2 (Or.inl e)) ?_
      exact ih _ _ (by omega) (by omega) t1 (Or.inl rfl)
    · refine rn_eq (kn.1 ⟨m', t4⟩ e) ?_
      exact ih _ _ (by omega) (by omega) t1 (Or.inr ⟨rfl, nxt_ok t4 e⟩)
theorem k_streetAt {a b : Nat} {i : Int32} {L : Nat → Nat} (hN2 : 300 ≤ N) (hK : KS sh z) (hR : WF R) (hS : SPN d z) (hT : TB sh d z ow 4 9 (nn R 1) (vS R) L) (hH : HopOK d z R) (ha : a < nn R 0) (hb : b < nn R 0) (hgb : ∀ a, a < 60 → dOK R 1000000000 a b (d.1 (z + (141 + b)) a)) : Rn (f_X10_streetAt N sh (z + 77) (nI a) (nI b) i d) (fun _ => True) := by
  have n0 := hR.1.1.2
  unfold f_X10_streetAt
  refine rn_t (ks_o hK 77 10 rfl) ?_
  refine rn_ite (fun _ => rn_some trivial) (fun h1 => ?_)
  refine rn_ite (fun h2 => ?_) (fun h2 => rn_some trivial)
  have kn := k_nextStreet (N := N) hN2 hK hR.1 hR.2.2.1 hS hT hH hb hgb ha
  by_cases e : a = b
  · refine rn_eq (kn.2 (Or.inl e)) ?_
    exact streetAt_loop hN2 hK hR hS hT hH hb hgb h2 60 0 N a _ (by omega) (by omega) ha (Or.inl rfl)
  · rcases hgb a (by omega) with ⟨n, q1, q2, q3⟩ | ⟨q1, q2⟩
    · refine rn_eq (kn.1 ⟨n, q1⟩ e) ?_
      exact streetAt_loop hN2 hK hR hS hT hH hb hgb h2 60 0 N a _ (by omega) (by omega) ha (Or.inr ⟨rfl, nxt_ok q1 e⟩)
    · refine rn_eq (kn.2 (Or.inr q1)) ?_
      exact streetAt_loop hN2 hK hR hS hT hH hb hgb h2 60 0 N a _ (by omega) (by omega) ha (Or.inl rfl)
theorem bt_lt {b : Nat} (hN : WN R) (hb : b < nn R 0) : ∀ j, bit (bt b) j = true → j < nn R 0 := fun j hj => by
  have n0 := hN.1.2
  rw [bit_bt (by omega)] at hj
  rw [← of_decide_eq_true hj]
  exact hb
theorem k_way {x x2 : Int32} (hN2 : 300 ≤ N) (h : CI s z ow R K u y c) (hR : WF R) : Rn (f_X11_way N s.1 z x x2 s.2) (KR z R K u c s) := by
  have hK := h.1
  have n0 := hR.1.1.2
  have hf0 : RFR z s (s.1, s.2) := RFR.rf
  have bad : Rn (f_X11_way_22 N s.1 z s.2) (KR z R K u c s) := by
    unfold f_X11_way_22
    refine rn_bind (k_refuse hK) (fun r hr => rn_some ?_)
    exact kr_lg h hf0 hr
  unfold f_X11_way
  refine rn_t (ks_o hK 0 11 rfl) ?_
  refine r_gP hK 0 11 1 3 rfl (by decide) ?_
  refine rn_eq (k_hasCrossing hK h.2.2.1.1 hR.1) ?_
  refine rn_ite (fun _ => bad) (fun h1 => ?_)
  obtain ⟨a, ha, rfl, -⟩ := st_of (by omega) (fun q => h1 (ite01.mpr q))
  refine r_gP hK 0 11 1 3 rfl (by decide) ?_
  refine rn_eq (k_hasCrossing hK h.2.2.1.1 hR.1) ?_
  refine rn_ite (fun h2 => ?_) (fun _ => bad)
  obtain ⟨b, hb, rfl, -⟩ := st_of (by omega) (fun q => h2 (ite01.mpr q))
  refine r_gP hK 0 11 3 77 rfl (by decide) ?_
  refine rn_bind (ci_each (goals := bt b) hN2 h hR (bt_lt hR.1 hb)) (fun d1 hd => ?_)
  obtain ⟨c1, f1, -⟩ := hd
  refine r_gP hK 0 11 3 77 rfl (by decide) ?_
  refine rn_eq (k_between hK c1.spn (by omega) (by omega)) ?_
  refine rn_ite (fun _ => ?_) (fun _ => ?_)
  · refine rn_bind (k_answer hK) (fun r hr => rn_some ?_)
    exact kr_lg c1 f1 hr
  · refine rn_bind (k_refuse hK) (fun r hr => rn_some ?_)
    exact kr_lg c1 f1 hr
theorem k_wayAt {x x2 i : Int32} (hN2 : 300 ≤ N) (h : CI s z ow R K u y c) (hR : WF R) : Rn (f_X11_wayAt N s.1 z x x2 i s.2) (KR z R K u c s) := by
  have hK := h.1
  have n0 := hR.1.1.2
  have hf0 : RFR z s (s.1, s.2) := RFR.rf
  have bad : Rn (f_X11_wayAt_22 N s.1 z s.2) (KR z R K u c s) := by
    unfold f_X11_wayAt_22
    refine rn_bind (k_refuse hK) (fun r hr => rn_some ?_)
    exact kr_lg h hf0 hr
  unfold f_X11_wayAt
  refine rn_t (ks_o hK 0 11 rfl) ?_
  refine r_gP hK 0 11 1 3 rfl (by decide) ?_
  refine rn_eq (k_hasCrossing hK h.2.2.1.1 hR.1) ?_
  refine rn_ite (fun _ => bad) (fun h1 => ?_)
  obtain ⟨a, ha, rfl, -⟩ := st_of (by omega) (fun q => h1 (ite01.mpr q))
  refine r_gP hK 0 11 1 3 rfl (by decide) ?_
  refine rn_eq (k_hasCrossing hK h.2.2.1.1 hR.1) ?_
  refine rn_ite (fun h2 => ?_) (fun _ => bad)
  obtain ⟨b, hb, rfl, -⟩ := st_of (by omega) (fun q => h2 (ite01.mpr q))
  refine r_gP hK 0 11 3 77 rfl (by decide) ?_
  refine rn_bind (ci_each (goals := bt b) hN2 h hR (bt_lt hR.1 hb)) (fun d1 hd => ?_)
  obtain ⟨c1, f1, e1, e2, e3, e4, e5⟩ := hd
  refine r_gP hK 0 11 3 77 rfl (by decide) ?_
  refine rn_eq (k_between hK c1.spn (by omega) (by omega)) ?_
  have hgb := e4 b (by omega) (e5 b (by rw [bit_bt (by omega)]; simp))
  refine rn_ite (fun _ => ?_) (fun _ => ?_)
  · refine r_gP hK 0 11 3 77 rfl (by decide) ?_
    refine rn_bind (k_streetAt hN2 hK hR c1.spn c1.2.2.1.2.1 e3 ha hb hgb) (fun v _ => ?_)
    refine rn_bind (k_answer hK) (fun r hr => rn_some ?_)
    exact kr_lg c1 f1 hr
  · refine rn_bind (k_refuse hK) (fun r hr => rn_some ?_)
    exact kr_lg c1 f1 hr
end WW
