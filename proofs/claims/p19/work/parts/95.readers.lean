/-! at length partner part: they read, and answer -/
section RD
variable {s : AS} {sh : Sh} {d d0 d' : Dt} {z : Nat} {ow : Nat → Nat} {R K : Nat → Int32} {u : Bool} {y : YL} {N cc : Nat}
theorem kr_refuses {v : Int32} (h : CI s z ow R K u y cc) : Rn ((f_X11_refuse N s.1 z v s.2).bind fun r => some (r.1, r.2)) (KR z R K u cc s) := by
  refine rn_bind (k_refuse h.1) (fun r hr => rn_some ?_)
  exact kr_lg (d1 := s.2) h RFR.rf hr
theorem kr_says {v : Int32} (h : CI s z ow R K u y cc) : Rn ((f_X11_answer N s.1 z v s.2).bind fun r => some (r.1, r.2)) (KR z R K u cc s) := by
  refine rn_bind (k_answer h.1) (fun r hr => rn_some ?_)
  exact kr_lg (d1 := s.2) h RFR.rf hr
theorem k_at {x x2 : Int32} (h : CI s z ow R K u y cc) (hR : WF R) : Rn (f_X11_at N s.1 z x x2 s.2) (KR z R K u cc s) := by
  have hK := h.1
  have n4 := hR.1.2.2.2.2.2
  have hT := h.2.2.1.2.2.2.2.1
  unfold f_X11_at f_X11_at_9 f_X11_at_47
  refine rn_t (ks_o hK 0 11 rfl) ?_
  refine rn_ite (fun _ => kr_refuses h) (fun q1 => ?_)
  refine rn_ite (fun q2 => ?_) (fun _ => kr_refuses h)
  obtain ⟨c, hc, rfl, -⟩ := st_of (x := x2) (n := 4) (by omega) (fun r => r.elim q1 (show ¬ (nI 4 ≤ x2) from Int32.not_le.mpr q2))
  refine r_gP hK 0 11 1 3 rfl (by decide) ?_
  refine r_gP hK 3 1 4 31 rfl (by decide) ?_
  refine rn_eq (tb_has (o := 31) (nc := 4) hK (by decide) hT) ?_
  refine rn_ite (fun _ => kr_says h) (fun q3 => ?_)
  obtain ⟨i, hi, rfl, -⟩ := st_of (by omega) (fun q => q3 (ite01.mpr q))
  refine r_gP hK 0 11 1 3 rfl (by decide) ?_
  refine r_gP hK 3 1 4 31 rfl (by decide) ?_
  refine rn_eq (tb_get (o := 31) (nc := 4) (c := c) hK (by decide) hT rfl hi rfl hc) ?_
  exact kr_says h
theorem k_length {x : Int32} (h : CI s z ow R K u y cc) : Rn (f_X11_length N s.1 z x s.2) (KR z R K u cc s) := by
  have hK := h.1
  unfold f_X11_length f_X11_length_10
  refine rn_t (ks_o hK 0 11 rfl) ?_
  refine rn_ite (fun _ => kr_refuses h) (fun q1 => ?_)
  refine rn_ite (fun q2 => ?_) (fun _ => kr_refuses h)
  obtain ⟨c, hc, rfl, -⟩ := st_of (x := x) (n := 7) (by omega) (fun r => r.elim q1 (show ¬ (nI 7 ≤ x) from Int32.not_le.mpr q2))
  refine r_gP hK 0 11 1 3 rfl (by decide) ?_
  refine r_gP hK 3 1 5 37 rfl (by decide) ?_
  refine rn_eq (q_aT (ks_a hK 37 0 7 rfl) c rfl hc (by decide)) ?_
  exact kr_says h
theorem k_partner {x : Int32} (h : CI s z ow R K u y cc) (hR : WF R) : Rn (f_X11_partner N s.1 z x s.2) (KR z R K u cc s) := by
  have hK := h.1
  have n0 := hR.1.1.2
  unfold f_X11_partner f_X11_partner_33
  refine rn_t (ks_o hK 0 11 rfl) ?_
  refine r_gP hK 0 11 1 3 rfl (by decide) ?_
  refine rn_eq (k_hasCrossing hK h.2.2.1.1 hR.1) ?_
  refine rn_ite (fun _ => kr_refuses h) (fun q1 => ?_)
  obtain ⟨c, hc, rfl, -⟩ := st_of (by omega) (fun q => q1 (ite01.mpr q))
  refine r_gP hK 0 11 1 3 rfl (by decide) ?_
  refine r_gP hK 3 1 6 38 rfl (by decide) ?_
  refine rn_eq (q_aT (ks_a hK 38 0 60 rfl) c rfl (by omega) (by decide)) ?_
  exact kr_says h
theorem k_part {x x2 : Int32} (h : CI s z ow R K u y cc) (hR : WF R) : Rn (f_X11_part N s.1 z x x2 s.2) (KR z R K u cc s) := by
  have hK := h.1
  have n3 := hR.1.2.2.2.1.2
  have hT := h.2.2.1.2.2.2.1
  unfold f_X11_part f_X11_part_24
  refine rn_t (ks_o hK 0 11 rfl) ?_
  refine r_gP hK 0 11 1 3 rfl (by decide) ?_
  refine r_gP hK 3 1 3 20 rfl (by decide) ?_
  refine rn_eq (tb_has (o := 20) (nc := 9) hK (by decide) hT) ?_
  refine rn_ite (fun _ => kr_refuses h) (fun q3 => ?_)
  obtain ⟨i, hi, rfl, -⟩ := st_of (by omega) (fun q => q3 (ite01.mpr q))
  refine rn_ite (fun _ => kr_refuses h) (fun q1 => ?_)
  refine rn_ite (fun q2 => ?_) (fun _ => kr_refuses h)
  obtain ⟨c, hc, rfl, -⟩ := st_of (x := x2) (n := 9) (by omega) (fun r => r.elim q1 (show ¬ (nI 9 ≤ x2) from Int32.not_le.mpr q2))
  refine r_gP hK 0 11 1 3 rfl (by decide) ?_
  refine r_gP hK 3 1 3 20 rfl (by decide) ?_
  refine rn_eq (tb_get (o := 20) (nc := 9) (c := c) hK (by decide) hT rfl hi rfl hc) ?_
  exact kr_says h
/-! the reference -/
theorem m_partner {x : Int32} (hK : KS sh z) (h : RI d z R K u) (hR : WF R) : Rn (f_X12_partner N sh (z + 242) x d) (RR z R K u d) := by
  have n0 := hR.1.1.2
  unfold f_X12_partner f_X12_partner_31
  refine rn_t (ks_o hK 242 12 rfl) ?_
  refine rn_eq (ri_isCrossing hK h hR.1) ?_
  refine rn_ite (fun h1 => rr_refuses hK h MFR.rf) (fun h1 => ?_)
  obtain ⟨c, hc, rfl, -⟩ := st_of (by omega) (fun q => h1 (ite01.mpr q))
  refine rdg hK h.1 (9582 + c) (by rw [show (9582 : Int32) = nI 9582 from rfl, nI_add]) (by omega) ?_
  exact rr_says hK h MFR.rf
theorem rdp {β : Type} {Q : β → Prop} {g : Int32 → Option β} {x : Int32} {p : Nat} (hK : KS sh z) (hp : p < 12) (k : Nat) (hk : k < 13) (hx : x = nI k) (kk : ∀ v, Rn (g v) Q) : Rn ((gP sh (z + 242) 12 0).bind fun v1 => (aT 0 sh d v1 ((9426 : Int32) + (13 : Int32) * nI p + x)).bind g) Q := by
  subst hx
  refine r_gP hK 242 12 0 243 rfl (by decide) ?_
  exact rn_eq (q_aT (ks_a hK 243 0 15642 rfl) (9426 + 13 * p + k) (ix_pl p k) (by omega) (by decide)) (kk _)
theorem m_part {x x2 : Int32} (hK : KS sh z) (h : RI d z R K u) (hR : WF R) : Rn (f_X12_part N sh (z + 242) x x2 d) (RR z R K u d) := by
  have n3 := hR.1.2.2.2.1
  unfold f_X12_part f_X12_part_18 f_X12_part_37
  refine rn_t (ks_o hK 242 12 rfl) ?_
  refine rn_eq (show f_X12_isPlough N sh (z + 242) x d = some (if x < 0 ∨ nI (nn R 3) ≤ x then 0 else 1) from ?_) ?_
  · have a3 := h.1 3 (by decide)
    have a4 : nn (d.1 (z + 243)) 3 = nn R 3 := by unfold nn; rw [a3]
    rw [← a4]
    exact m_isPlough hK rfl (by rw [a4, a3]; exact n3.1) (by rw [a4]; omega)
  refine rn_ite (fun h1 => rr_refuses hK h MFR.rf) (fun h1 => ?_)
  obtain ⟨p, hp, rfl, -⟩ := st_of (by omega) (fun q => h1 (ite01.mpr q))
  refine rn_eq m_in ?_
  refine rn_ite (fun _ => ?_) (fun _ => rr_refuses hK h MFR.rf)
  refine rn_bind (P := fun _ => True) ?_ (fun v _ => rr_says hK h MFR.rf)
  have hp12 : p < 12 := by omega
  unfold f_X12_partAt f_X12_partAt_135
  refine rn_t (ks_o hK 242 12 rfl) ?_
  refine rn_eq (m_pl hK) ?_
  refine rn_ite (fun _ => rdp hK hp12 6 (by decide) rfl (fun _ => rn_some trivial)) (fun _ => ?_)
  refine rn_ite (fun _ => rdp hK hp12 7 (by decide) rfl (fun _ => rn_some trivial)) (fun _ => ?_)
  refine rn_ite (fun _ => rdp hK hp12 8 (by decide) rfl (fun _ => rn_some trivial)) (fun _ => ?_)
  refine rn_ite (fun _ => rdp hK hp12 9 (by decide) rfl (fun _ => rn_some trivial)) (fun _ => ?_)
  refine rn_ite (fun _ => rdp hK hp12 10 (by decide) rfl (fun _ => rn_some trivial)) (fun _ => ?_)
  refine rn_ite (fun _ => rdp hK hp12 1 (by decide) rfl (fun _ => rn_some trivial)) (fun _ => ?_)
  refine rn_ite (fun _ => rdp hK hp12 2 (by decide) rfl (fun v => ?_)) (fun _ => ?_)
  · refine rn_ite (fun _ => rdp hK hp12 0 (by decide) rfl (fun _ => rn_some trivial)) (fun _ => rn_some trivial)
  refine rn_ite (fun _ => rdp hK hp12 11 (by decide) rfl (fun _ => rn_some trivial)) (fun _ => ?_)
  exact rdp hK hp12 12 (by decide) rfl (fun _ => rn_some trivial)
end RD
