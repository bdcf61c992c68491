section RD2
variable {s : AS} {sh : Sh} {d d0 d' : Dt} {z : Nat} {R K : Nat → Int32} {u : Bool} {N : Nat}
theorem ix_dr (i k : Nat) : (9642 : Int32) + (3 : Int32) * nI i + nI k = nI (9642 + 3 * i + k) := by
  rw [show (3 : Int32) = nI 3 from rfl, show (9642 : Int32) = nI 9642 from rfl, pk_mul, nI_add, nI_add]
theorem ix_dr0 (i : Nat) : (9642 : Int32) + (3 : Int32) * nI i = nI (9642 + 3 * i) := by
  rw [show (3 : Int32) = nI 3 from rfl, show (9642 : Int32) = nI 9642 from rfl, pk_mul, nI_add]
theorem rdd {β : Type} {Q : β → Prop} {g : Int32 → Option β} {x : Int32} {i : Nat} (hK : KS sh z) (hA : AG (d.1 (z + 243)) R) (hi : i < 2000) (k : Nat) (hk : k < 3) (hx : x = nI k) (kk : Rn (g (R (9642 + 3 * i + k))) Q) : Rn ((gP sh (z + 242) 12 0).bind fun v1 => (aT 0 sh d v1 ((9642 : Int32) + (3 : Int32) * nI i + x)).bind g) Q := by
  subst hx
  exact rdg hK hA (9642 + 3 * i + k) (ix_dr i k) (by omega) kk
theorem rdd0 {β : Type} {Q : β → Prop} {g : Int32 → Option β} {i : Nat} (hK : KS sh z) (hA : AG (d.1 (z + 243)) R) (hi : i < 2000) (kk : Rn (g (R (9642 + 3 * i))) Q) : Rn ((gP sh (z + 242) 12 0).bind fun v1 => (aT 0 sh d v1 ((9642 : Int32) + (3 : Int32) * nI i)).bind g) Q := rdg hK hA (9642 + 3 * i) (ix_dr0 i) (by omega) kk
theorem rst {β : Type} {Q : β → Prop} {g : Int32 → Option β} {x : Int32} {s : Nat} (hK : KS sh z) (hA : AG (d.1 (z + 243)) R) (k : Nat) (hs : s < 150) (hk : k < 9) (hx : x = nI k) (kk : Rn (g (R (16 + 9 * s + k))) Q) : Rn ((gP sh (z + 242) 12 0).bind fun v1 => (aT 0 sh d v1 ((16 : Int32) + (9 : Int32) * nI s + x)).bind g) Q := by
  subst hx
  exact rdg hK hA (16 + 9 * s + k) (ix_st s k) (by omega) kk
theorem m_at {x x2 : Int32} (hK : KS sh z) (h : RI d z R K u) (hR : WF R) : Rn (f_X12_at N sh (z + 242) x x2 d) (RR z R K u d) := by
  have n4 := hR.1.2.2.2.2
  have n1 := hR.1.2.1.2
  unfold f_X12_at f_X12_at_43
  refine rn_t (ks_o hK 242 12 rfl) ?_
  refine rn_eq m_in ?_
  refine rn_ite (fun _ => ?_) (fun _ => rr_refuses hK h MFR.rf)
  refine rdg hK h.1 4 rfl (by decide) ?_
  rw [n4.1]
  refine rn_eq m_in ?_
  refine rn_ite (fun _ => rr_says hK h MFR.rf) (fun q2 => ?_)
  have q2 : ¬ (x < 0 ∨ nI (nn R 4) ≤ x) := fun r => q2 (ite01.mpr (r.imp id (fun r => (lt_pred (by omega)).mpr r)))
  obtain ⟨i, hi, rfl, -⟩ := st_of (by omega) q2
  obtain ⟨s, c, hs, e0, e1, -⟩ := hR.2.2.2.2.2 i hi
  refine rn_bind (P := fun _ => True) ?_ (fun v _ => rr_says hK h MFR.rf)
  unfold f_X12_driveAt f_X12_driveAt_68
  refine rn_t (ks_o hK 242 12 rfl) ?_
  refine rn_ite (fun _ => ?_) (fun _ => rdd0 hK h.1 (by omega) (rn_some trivial))
  refine rn_ite (fun _ => ?_) (fun _ => rdd hK h.1 (by omega) 1 (by decide) rfl (rn_some trivial))
  refine rn_ite (fun _ => rdd hK h.1 (by omega) 2 (by decide) rfl (rn_some trivial)) (fun _ => ?_)
  refine rn_bind (P := fun _ => True) ?_ (fun v _ => rn_some trivial)
  unfold f_X12_to f_X12_to_64
  refine rn_t (ks_o hK 242 12 rfl) ?_
  refine rdd0 hK h.1 (by omega) ?_
  rw [e0]
  refine rn_eq (m_st hK) ?_
  refine rdd hK h.1 (by omega) 1 (by decide) rfl ?_
  refine rst hK h.1 7 (by omega) (by decide) rfl ?_
  refine rn_ite (fun _ => rst hK h.1 7 (by omega) (by decide) rfl (rn_some trivial)) (fun _ => rst hK h.1 8 (by omega) (by decide) rfl (rn_some trivial))
theorem len_loop {x : Int32} (hK : KS sh z) (h : RI d z R K u) (hR : WF R) : ∀ (m i fu : Nat) (a b : Int32), i + m = nn R 4 → m < fu → Rn (f_X12_length_7 N sh fu (z + 242) x a b (nI i) d) (RR z R K u d)
  | 0, i, fu, a, b, hi, hf => by
    obtain ⟨fu, rfl⟩ : ∃ q, fu = q + 1 := ⟨fu - 1, by omega⟩
    show Rn (g_X12_length_7 N sh (f_X12_length_7 N sh fu) (z + 242) x a b (nI i) d) _
    have n4 := hR.1.2.2.2.2
    unfold g_X12_length_7
    refine rdg hK h.1 4 rfl (by decide) ?_
    rw [n4.1]
    refine rn_t ((nI_leI (by omega) (by omega)).mpr (by omega)) ?_
    unfold f_X12_length_70
    refine rn_ite (fun _ => rdg hK h.1 4 rfl (by decide) (rr_says hK h MFR.rf)) (fun _ => ?_)
    refine rn_ite (fun _ => rr_says hK h MFR.rf) (fun _ => ?_)
    refine rn_ite (fun _ => rr_says hK h MFR.rf) (fun _ => ?_)
    refine rn_ite (fun _ => rdg hK h.1 6 rfl (by decide) (rr_says hK h MFR.rf)) (fun _ => ?_)
    refine rn_ite (fun _ => rdg hK h.1 7 rfl (by decide) (rr_says hK h MFR.rf)) (fun _ => ?_)
    refine rn_ite (fun _ => rdg hK h.1 8 rfl (by decide) (rr_says hK h MFR.rf)) (fun _ => ?_)
    refine rn_ite (fun _ => rdg hK h.1 5 rfl (by decide) (rr_says hK h MFR.rf)) (fun _ => ?_)
    exact rr_refuses hK h MFR.rf
  | m + 1, i, fu, a, b, hi, hf => by
    obtain ⟨fu, rfl⟩ : ∃ q, fu = q + 1 := ⟨fu - 1, by omega⟩
    have ih := len_loop (x := x) hK h hR m (i + 1) fu
    show Rn (g_X12_length_7 N sh (f_X12_length_7 N sh fu) (z + 242) x a b (nI i) d) _
    have n4 := hR.1.2.2.2.2
    have n1 := hR.1.2.1.2
    have hi4 : i < nn R 4 := by omega
    obtain ⟨s, c, hs, e0, e1, -⟩ := hR.2.2.2.2.2 i hi4
    unfold g_X12_length_7
    refine rdg hK h.1 4 rfl (by decide) ?_
    rw [n4.1, nI_1]
    refine rn_f (nI_ge hi4 (by omega)) ?_
    refine r_gP hK 242 12 0 243 rfl (by decide) ?_
    refine rdd0 hK h.1 (by omega) ?_
    rw [e0]
    refine rn_eq (m_st hK) ?_
    refine rn_eq (q_aT (ks_a hK 243 0 15642 rfl) (16 + 9 * s + 6) (ix_st s 6) (by omega) (by decide)) ?_
    refine rdd hK h.1 (by omega) 2 (by decide) rfl ?_
    exact ih _ _ (by omega) (by omega)
theorem m_length {x : Int32} (hN2 : 2100 ≤ N) (hK : KS sh z) (h : RI d z R K u) (hR : WF R) : Rn (f_X12_length N sh (z + 242) x d) (RR z R K u d) := by
  have n4 := hR.1.2.2.2.2.2
  unfold f_X12_length
  refine rn_t (ks_o hK 242 12 rfl) ?_
  exact len_loop hK h hR (nn R 4) 0 N 0 0 (by omega) (by omega)
end RD2
