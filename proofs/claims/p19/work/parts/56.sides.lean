/-! sides(), and the calls that only tell -/
section SD
variable {s : AS} {sh : Sh} {d : Dt} {z : Nat} {ow : Nat → Nat} {R R' K : Nat → Int32} {u : Bool} {y : YL} {c N : Nat}
/-- the same map -/
def GEQ (R R' : Nat → Int32) : Prop := nn R' 0 = nn R 0 ∧ nn R' 1 = nn R 1 ∧ ∀ s k, s < nn R 1 → 4 ≤ k → k < 9 → R' (16 + 9 * s + k) = R (16 + 9 * s + k)
theorem GEQ.sy (h : GEQ R R') : GEQ R' R := ⟨h.1.symm, h.2.1.symm, fun s k hs h1 h2 => (h.2.2 s k (by rw [← h.2.1]; exact hs) h1 h2).symm⟩
theorem GEQ.edge (h : GEQ R R') {s a b : Nat} (he : edge R s a b) : edge R' s a b := by
  obtain ⟨h1, h2, h3⟩ := he
  refine ⟨by rw [h.2.1]; exact h1, by rw [h.2.2 s 4 h1 (by omega) (by omega)]; exact h2, ?_⟩
  rw [h.2.2 s 7 h1 (by omega) (by omega), h.2.2 s 8 h1 (by omega) (by omega), h.2.2 s 5 h1 (by omega) (by omega)]
  exact h3
theorem GEQ.wk (h : GEQ R R') : ∀ (p : List Nat) (a b : Nat), wk R p a b → wk R' p a b ∧ wln R' p = wln R p
  | [], a, b, hw => ⟨hw, rfl⟩
  | s :: p, a, b, hw => by
    obtain ⟨c, h1, h2, h3⟩ := hw
    have ih := GEQ.wk h p c b h3
    refine ⟨⟨c, by rw [h.1]; exact h1, h.edge h2, ih.1⟩, ?_⟩
    show sln R' s + wln R' p = sln R s + wln R p
    rw [ih.2]
    unfold sln nn
    rw [h.2.2 s 6 h2.1 (by omega) (by omega)]
theorem GEQ.dst (h : GEQ R R') {a b n : Nat} (hd : dst R a b n) : dst R' a b n := by
  obtain ⟨⟨p, h1, h2⟩, h3⟩ := hd
  refine ⟨⟨p, (h.wk p a b h1).1, by rw [(h.wk p a b h1).2]; exact h2⟩, fun q hq => ?_⟩
  have r := h.sy.wk q a b hq
  rw [← r.2]
  exact h3 q r.1
theorem GEQ.dOK (h : GEQ R R') {f a b : Nat} {x : Int32} (hd : dOK R f a b x) : dOK R' f a b x := by
  rcases hd with ⟨n, h1, h2, h3⟩ | ⟨h1, h2⟩
  · exact Or.inl ⟨n, h.dst h1, h2, h3⟩
  · exact Or.inr ⟨fun p hp => h1 p (h.sy.wk p a b hp).1, h2⟩
/-- a row's cell that is no part of the map is written -/
theorem ri_cellG {j : Nat} {v : Int32} (h : RI d z R K u) (hN : WN R) (hj : 2 ≤ j) (hj2 : ∀ s k, s < 150 → 4 ≤ k → k < 9 → 16 + 9 * s + k ≠ j) : RI (wI d (z + 243) j v) z (va_up R j v) K u := by
  obtain ⟨h1, h2, h3, h4, h6⟩ := h
  have n1 := hN.2.1.2
  have e : (wI d (z + 243) j v).1 (z + 242) = d.1 (z + 242) := wI_n (by omega)
  have e2 : (wI d (z + 243) j v).1 (z + 244) = d.1 (z + 244) := wI_n (by omega)
  have e3 : (wI d (z + 243) j v).1 (z + 247) = d.1 (z + 247) := wI_n (by omega)
  have hg : GEQ R (va_up R j v) := ⟨nn_up (by omega), nn_up (by omega), fun s k hs q1 q2 => va_up_n (hj2 s k (by omega) q1 q2)⟩
  refine ⟨fun k hk => ?_, by rw [e2]; exact h2, by rw [e]; exact h3, by rw [e]; exact h4, ?_⟩
  · rw [wI_s]
    unfold va_up
    by_cases ek : k = j
    · rw [if_pos ek, if_pos ek]
    · rw [if_neg ek, if_neg ek]
      exact h1 k hk
  · rw [e, e3]
    rcases h6 with h6 | h6
    · exact Or.inl h6
    · refine Or.inr ⟨h6.1, fun a b ha hb => hg.dOK (h6.2 a b ?_ ?_)⟩
      · rw [hg.1] at ha
        exact ha
      · rw [hg.1] at hb
        exact hb
theorem wn_up {j : Nat} {v : Int32} (h : WN R) (hj : 5 ≤ j) : WN (va_up R j v) := by
  unfold WN
  rw [va_up_n (f := R) (show (0 : Nat) ≠ j by omega), va_up_n (f := R) (show (1 : Nat) ≠ j by omega), va_up_n (f := R) (show (2 : Nat) ≠ j by omega), va_up_n (f := R) (show (3 : Nat) ≠ j by omega), va_up_n (f := R) (show (4 : Nat) ≠ j by omega), nn_up (by omega), nn_up (by omega), nn_up (by omega), nn_up (by omega), nn_up (by omega)]
  exact h
def sp_sides (R : Nat → Int32) (x n : Int32) : Int32 × Option (Nat → Int32) := if (x < 0 ∨ nI (nn R 1) ≤ x) ∨ (n < 0 ∨ 2 < n) then (-2, none) else (R (16 + 9 * x.toNatClampNeg + 3), some (va_up (va_up R (16 + 9 * x.toNatClampNeg + 3) n) (16 + 9 * x.toNatClampNeg + 2) 0))
theorem le2 {n : Int32} : n ≤ 2 ↔ ¬ 2 < n := ⟨fun h q => Int32.not_le.mpr q h, fun h => Int32.not_lt.mp h⟩
theorem m_sides {x n : Int32} (hNf : 15642 < N) (hK : KS sh z) (h : RI d z R K u) (hN : WN R) : Rn (f_X12_sides N sh (z + 242) x n d) (RO z R K u (sp_sides R x n) d) := by
  have n1 := hN.2.1.2
  unfold f_X12_sides
  refine rn_t (ks_o hK 242 12 rfl) ?_
  refine rn_eq (ri_isStreet hK h hN) ?_
  unfold sp_sides
  refine rn_ite (fun h1 => ?_) (fun h1 => ?_)
  · rw [if_pos (Or.inl (ite01.mp h1))]
    exact ro_refuses hK h rfl
  · have h2 : ¬ (x < 0 ∨ nI (nn R 1) ≤ x) := fun q => h1 (ite01.mpr q)
    refine rn_eq m_in ?_
    refine rn_ite (fun h3 => ?_) (fun h3 => ?_)
    · have h4 : ¬ (n < 0 ∨ 2 < n) := fun q => h3 (ite01.mpr q)
      rw [if_neg (fun q => q.elim h2 h4)]
      obtain ⟨i, hi, rfl, e2⟩ := st_of (by omega) h2
      rw [e2]
      refine rn_bind (ri_keeps h hK hNf) (fun d1 hd => ?_)
      obtain ⟨x1, x2⟩ := hd
      have ha := ks_a hK 243 0 15642 rfl
      refine r_gP hK 242 12 0 243 rfl (by decide) ?_
      refine rn_eq (m_st hK) ?_
      refine rn_eq (q_aT ha (16 + 9 * i + 3) (ix_st i 3) (by omega) (by decide)) ?_
      refine r_gP hK 242 12 0 243 rfl (by decide) ?_
      refine rn_eq (m_st hK) ?_
      refine rn_eq (q_sI ha (16 + 9 * i + 3) (ix_st i 3) (by omega) (by decide)) ?_
      refine r_gP hK 242 12 0 243 rfl (by decide) ?_
      refine rn_eq (m_st hK) ?_
      refine rn_eq (q_sI ha (16 + 9 * i + 2) (ix_st i 2) (by omega) (by decide)) ?_
      have ev : d1.1 (z + 243) (16 + 9 * i + 3) = R (16 + 9 * i + 3) := x1.1 _ (by omega)
      rw [ev]
      have r1 := ri_cellG (j := 16 + 9 * i + 3) (v := n) x1 hN (by omega) (fun s k _ q1 q2 => by omega)
      have r2 := ri_cellG (j := 16 + 9 * i + 2) (v := 0) r1 (wn_up hN (by omega)) (by omega) (fun s k _ q1 q2 => by omega)
      exact ro_done hK r2 (x2.tr ((MFR.wI (by decide) (by decide)).tr (MFR.wI (by decide) (by decide)))) rfl
    · have h4 : n < 0 ∨ 2 < n := ite01.mp (Decidable.of_not_not h3)
      rw [if_pos (Or.inr h4)]
      exact ro_refuses hK h rfl
theorem k_sides {x n : Int32} (hNf : 30 ≤ N) (h : CI s z ow R K u y c) (hR : WF R) (hKF : WF K) : Rn (f_X11_sides N z x n s) (KO z R K u c (sp_sides R x n) s) := by
  have hK := h.1
  have n1 := hR.1.2.1.2
  have ht4 : tck 4 9 = true := by decide
  have bad : (n < 0 ∨ 2 < n) → Rn (f_X11_sides_9 N z s) (KO z R K u c (sp_sides R x n) s) := fun hb => by
    unfold sp_sides
    rw [if_pos (Or.inr hb)]
    unfold f_X11_sides_9
    refine rn_bind (k_refuse hK) (fun r hr => rn_some ?_)
    exact ko_lg h hr rfl
  unfold f_X11_sides
  refine rn_t (ks_o hK 0 11 rfl) ?_
  refine rn_ite (fun h1 => bad (Or.inl h1)) (fun h1 => ?_)
  refine rn_ite (fun h2 => ?_) (fun h2 => bad (Or.inr (Decidable.of_not_not (fun q => h2 (le2.mpr q)))))
  refine rn_bind (k_becomeF (k := 3) hNf (by decide) h hR hKF) (fun r hr => ?_)
  obtain ⟨⟨k1, k2, ow1, y1, k3⟩, k4⟩ := hr
  by_cases hb : x < 0 ∨ nI (nn R 1) ≤ x
  · rw [show sp_sides R x n = _ from if_pos (Or.inl hb)]
    unfold f_X11_sides_23
    unfold sp_turn at k1 k3
    rw [if_pos hb] at k1 k3
    have hneg : r.1 < 0 := by
      rw [k1]
      decide
    refine rn_t hneg ?_
    exact rn_some ⟨k1, k2, ow1, y1, k3⟩
  · have h3 : ¬ (n < 0 ∨ 2 < n) := fun q => q.elim h1 (fun q => le2.mp h2 q)
    rw [show sp_sides R x n = _ from if_neg (fun q => q.elim hb h3)]
    unfold f_X11_sides_23
    unfold sp_turn at k1 k3 k4
    rw [if_neg hb] at k1 k3 k4
    obtain ⟨i, hi, rfl, e2⟩ := st_of (by omega) hb
    rw [e2] at k1 k3 k4 ⊢
    obtain ⟨g1, g2, g3⟩ := k4 rfl
    have k3 : CI r.2 z ow1 (va_up R (16 + 9 * i + 3) n) R true y1 c := k3
    have k1 : r.1 = R (16 + 9 * i + 3) := k1
    obtain ⟨-, -, -, -, hs, hs2⟩ := hR.2.2.1 i hi
    have hneg : ¬ r.1 < 0 := by
      rw [k1, hs]
      exact nI_pos (by omega)
    refine rn_f hneg ?_
    have hK1 := k3.1
    have hw1 := k3.2.1
    have hN1 : WN (va_up R (16 + 9 * i + 3) n) := wn_up hR.1 (by omega)
    have hi1 : i < nn (va_up R (16 + 9 * i + 3) n) 1 := by
      rw [nn_up (by omega)]
      exact hi
    have hB1 : BK r.2.1 r.2.2 z ow1 3 (va_up R (16 + 9 * i + 3) n) y1.1 := k3.2.2.1
    refine r_gP hK1 0 11 1 3 rfl (by decide) ?_
    refine r_gP hK1 3 1 1 4 rfl (by decide) ?_
    refine rn_bind (tb_put (o := 4) (nc := 9) (c := 2) hK1 hw1 ht4 hB1.2.1 rfl hi1 rfl (by decide)) (fun d1 hd => ?_)
    have hbk := bk_upS (Or.inl rfl) hK1 hw1 hN1 hB1 hi1 (k := 2) (by decide) hd.1 hd.2
    have q := ci_new k3 g1 g2 g3 (hd.2.mono (fun a ha => ix_mono (tx_ix ht4 hw1 ha) (by omega) (by omega))) hbk (pb_congr k3.2.2.2.2.2.1 (va_up_n (by omega)) (fun j hj => va_up_n (by omega)))
    exact rn_some ⟨k1, k2.tr q.2, ow1, y1, q.1⟩
/-! calls that only tell what p17 doesn't compare: they run -/
theorem k_looks (hK : KS sh z) : Rn (f_X11_looks N sh z d) (fun _ => True) := by
  unfold f_X11_looks
  refine rn_t (ks_o hK 0 11 rfl) ?_
  refine r_gP hK 0 11 0 1 rfl (by decide) ?_
  exact r_gI hK (i := 1) (c := 2) rfl (rn_some trivial)
theorem k_status (hK : KS sh z) : Rn (f_X11_status N sh z d) (fun _ => True) := by
  unfold f_X11_status
  refine rn_t (ks_o hK 0 11 rfl) ?_
  refine r_gP hK 0 11 0 1 rfl (by decide) ?_
  exact r_gI hK (i := 1) (c := 2) rfl (rn_some trivial)
theorem k_trace (hK : KS sh z) : Rn (f_X11_trace N sh z d) (fun _ => True) := by
  unfold f_X11_trace
  refine rn_t (ks_o hK 0 11 rfl) ?_
  refine r_gP hK 0 11 0 1 rfl (by decide) ?_
  exact r_gI hK (i := 1) (c := 2) rfl (rn_some trivial)
theorem m_looks (hK : KS sh z) : Rn (f_X12_looks N sh (z + 242) d) (fun _ => True) := by
  unfold f_X12_looks
  refine rn_t (ks_o hK 242 12 rfl) ?_
  exact r_gI hK (i := 242) (c := 12) rfl (rn_some trivial)
theorem m_status (hK : KS sh z) : Rn (f_X12_status N sh (z + 242) d) (fun _ => True) := by
  unfold f_X12_status
  refine rn_t (ks_o hK 242 12 rfl) ?_
  exact r_gI hK (i := 242) (c := 12) rfl (rn_some trivial)
theorem m_trace (hK : KS sh z) : Rn (f_X12_trace N sh (z + 242) d) (fun _ => True) := by
  unfold f_X12_trace
  refine rn_t (ks_o hK 242 12 rfl) ?_
  exact r_gI hK (i := 242) (c := 12) rfl (rn_some trivial)
theorem k_findings {v : Int32} (hK : KS sh z) : Rn (f_X11_findings N sh z v d) (fun _ => True) := by
  unfold f_X11_findings
  refine rn_t (ks_o hK 0 11 rfl) ?_
  have ha := ks_a hK 2 0 5 rfl
  refine rn_ite (fun _ => rn_some trivial) (fun h1 => ?_)
  refine r_gP hK 0 11 0 1 rfl (by decide) ?_
  refine r_gP hK 1 2 0 2 rfl (by decide) ?_
  refine rn_eq (q_len ha (by decide)) ?_
  refine rn_ite (fun _ => rn_some trivial) (fun h2 => ?_)
  obtain ⟨i, hi, rfl, -⟩ := st_of (n := 5) (by decide) (fun q => q.elim h1 h2)
  refine r_gP hK 0 11 0 1 rfl (by decide) ?_
  refine r_gP hK 1 2 0 2 rfl (by decide) ?_
  exact rn_eq (q_aT ha i rfl hi (by decide)) (rn_some trivial)
theorem m_findings {v : Int32} (hK : KS sh z) : Rn (f_X12_findings N sh (z + 242) v d) (fun _ => True) := by
  unfold f_X12_findings
  refine rn_t (ks_o hK 242 12 rfl) ?_
  refine rn_eq m_in ?_
  refine rn_ite (fun _ => rn_some trivial) (fun h1 => ?_)
  have h2 : ¬ (v < 0 ∨ nI 5 ≤ v) := fun q => h1 (ite01.mpr (q.elim Or.inl (fun q => Or.inr ((lt_pred (n := 5) (by decide)).mpr q))))
  obtain ⟨i, hi, rfl, -⟩ := st_of (n := 5) (by decide) h2
  refine r_gP hK 242 12 6 245 rfl (by decide) ?_
  exact rn_eq (q_aT (ks_a hK 245 0 5 rfl) i rfl hi (by decide)) (rn_some trivial)
theorem k_count {v : Int32} (hK : KS sh z) : Rn (f_X11_count N sh z v d) (fun _ => True) := by
  unfold f_X11_count
  refine rn_t (ks_o hK 0 11 rfl) ?_
  refine rn_ite (fun _ => ?_) (fun _ => rn_ite (fun _ => ?_) (fun _ => rn_ite (fun _ => ?_) (fun _ => rn_ite (fun _ => ?_) (fun _ => rn_some trivial))))
  · refine r_gP hK 0 11 1 3 rfl (by decide) ?_
    exact r_gI hK (i := 3) (c := 1) rfl (rn_some trivial)
  · refine r_gP hK 0 11 1 3 rfl (by decide) ?_
    refine r_gP hK 3 1 1 4 rfl (by decide) ?_
    exact r_gI hK (i := 4) (c := 8) rfl (rn_some trivial)
  · refine r_gP hK 0 11 1 3 rfl (by decide) ?_
    refine r_gP hK 3 1 2 15 rfl (by decide) ?_
    exact r_gI hK (i := 15) (c := 8) rfl (rn_some trivial)
  · refine r_gP hK 0 11 1 3 rfl (by decide) ?_
    refine r_gP hK 3 1 3 20 rfl (by decide) ?_
    exact r_gI hK (i := 20) (c := 8) rfl (rn_some trivial)
theorem m_count {v : Int32} (hK : KS sh z) : Rn (f_X12_count N sh (z + 242) v d) (fun _ => True) := by
  unfold f_X12_count
  refine rn_t (ks_o hK 242 12 rfl) ?_
  refine rn_eq m_in ?_
  refine rn_ite (fun _ => rn_some trivial) (fun h1 => ?_)
  have h2 : ¬ (v < 0 ∨ nI 4 ≤ v) := fun q => h1 (ite01.mpr (q.elim Or.inl (fun q => Or.inr ((lt_pred (n := 4) (by decide)).mpr q))))
  obtain ⟨i, hi, rfl, -⟩ := st_of (n := 4) (by decide) h2
  refine r_gP hK 242 12 0 243 rfl (by decide) ?_
  exact rn_eq (q_aT (ks_a hK 243 0 15642 rfl) i rfl (by omega) (by decide)) (rn_some trivial)
end SD
