section CH
variable {sh : Sh} {d : Dt} {z : Nat} {ow : Nat → Nat} {R K : Nat → Int32} {N : Nat}
theorem z0 : z + 0 = z := Nat.add_zero z
/-- only the log's cells are touched -/
def LG (z : Nat) (d d' : Dt) : Prop := d'.2 = d.2 ∧ ∀ a, a ≠ z + 1 → a ≠ z + 2 → d'.1 a = d.1 a
theorem LG.rf : LG z d d := ⟨rfl, fun _ _ _ => rfl⟩
theorem LG.tr {d1 d2 : Dt} (h1 : LG z d d1) (h2 : LG z d1 d2) : LG z d d2 := ⟨h2.1.trans h1.1, fun a q1 q2 => (h2.2 a q1 q2).trans (h1.2 a q1 q2)⟩
theorem LG.w1 {k : Nat} {v : Int32} : LG z d (wI d (z + 1) k v) := ⟨rfl, fun a q1 _ => wI_n q1⟩
theorem LG.w2 {k : Nat} {v : Int32} : LG z d (wI d (z + 2) k v) := ⟨rfl, fun a _ q2 => wI_n q2⟩
theorem LG.ix {d' : Dt} (hw : OWS ow z) (h : LG z d d') : FD (IX z ow 1 2) d d' := fun a ha => by
  have q1 : a ≠ z + 1 := fun e => ha (by rw [e]; unfold IX; rw [onr_s (hw 1 (by decide) (by decide)) (by decide)]; omega)
  have q2 : a ≠ z + 2 := fun e => ha (by rw [e]; unfold IX; rw [onr_s (hw 2 (by decide) (by decide)) (by decide)]; omega)
  exact ⟨h.2 a q1 q2, by rw [h.1], by rw [h.1], by rw [h.1]⟩
theorem k_answer {v : Int32} (hK : KS sh z) : Rn (f_X11_answer N sh z v d) (fun r => r.1 = v ∧ LG z d r.2) := by
  unfold f_X11_answer
  rw [← z0 (z := z)]
  refine rn_t (ks_o hK 0 11 rfl) ?_
  refine r_gP hK 0 11 0 1 rfl (by decide) ?_
  refine r_pI hK (i := 1) (c := 2) rfl ?_
  exact rn_some ⟨rfl, LG.w1⟩
theorem k_find {v : Int32} (hK : KS sh z) : Rn (f_X2_find N sh (z + 1) v d) (fun r => LG z d r) := by
  unfold f_X2_find
  refine rn_t (ks_o hK 1 2 rfl) ?_
  have ha := ks_a hK 2 0 5 rfl
  refine rn_ite (fun h1 => ?_) (fun h1 => ?_)
  · refine rn_ite (fun h2 => rn_some LG.rf) (fun h2 => ?_)
    refine rn_ite (fun h3 => rn_some LG.rf) (fun h3 => ?_)
    refine r_gP hK 1 2 0 2 rfl (by decide) ?_
    have hv : ∃ j, j < 5 ∧ (-4 : Int32) - v = nI j := by
      have e1 : ¬ (-4 : Int32) < v := h2
      have e2 : ¬ v < (-7 : Int32) := h3
      rw [Int32.lt_iff_toInt_lt] at e1 e2
      have e3 : (-4 : Int32).toInt = -4 := by decide
      have e4 : (-7 : Int32).toInt = -7 := by decide
      rw [e3] at e1
      rw [e4] at e2
      have e5 : v.toInt = -4 ∨ v.toInt = -5 ∨ v.toInt = -6 ∨ v.toInt = -7 := by omega
      rcases e5 with e | e | e | e
      · have : v = -4 := Int32.toInt_inj.mp (e.trans (by decide))
        exact ⟨0, by decide, by rw [this]; decide⟩
      · have : v = -5 := Int32.toInt_inj.mp (e.trans (by decide))
        exact ⟨1, by decide, by rw [this]; decide⟩
      · have : v = -6 := Int32.toInt_inj.mp (e.trans (by decide))
        exact ⟨2, by decide, by rw [this]; decide⟩
      · have : v = -7 := Int32.toInt_inj.mp (e.trans (by decide))
        exact ⟨3, by decide, by rw [this]; decide⟩
    obtain ⟨j, hj, ej⟩ := hv
    rw [ej]
    refine rn_eq (q_aT ha j rfl hj (by decide)) ?_
    refine rn_eq (q_sI ha j rfl hj (by decide)) ?_
    exact rn_some LG.w2
  · refine r_gP hK 1 2 0 2 rfl (by decide) ?_
    refine rn_eq (q_aT ha 4 rfl (by decide) (by decide)) ?_
    refine rn_eq (q_sI ha 4 rfl (by decide) (by decide)) ?_
    exact rn_some LG.w2
theorem k_refuse {v : Int32} (hK : KS sh z) : Rn (f_X11_refuse N sh z v d) (fun r => r.1 = v ∧ LG z d r.2) := by
  unfold f_X11_refuse
  rw [← z0 (z := z)]
  refine rn_t (ks_o hK 0 11 rfl) ?_
  refine r_gP hK 0 11 0 1 rfl (by decide) ?_
  refine r_pI hK (i := 1) (c := 2) rfl ?_
  refine r_gP hK 0 11 0 1 rfl (by decide) ?_
  refine rn_bind (k_find hK) (fun d' hd => ?_)
  exact rn_some ⟨rfl, LG.w1.tr hd⟩
theorem k_forget (hK : KS sh z) : f_X11_forgetWays N sh z d = some (wI (wI (wI d (z + 77) 5 0) (z + 201) 4 0) (z + 201) 7 0) := by
  refine rn_val ?_
  unfold f_X11_forgetWays
  rw [← z0 (z := z)]
  refine rn_t (ks_o hK 0 11 rfl) ?_
  refine r_gP hK 0 11 3 77 rfl (by decide) ?_
  refine rn_eq (v := wI d (z + 77) 5 0) ?_ ?_
  · refine rn_val ?_
    unfold f_X10_forget
    refine rn_t (ks_o hK 77 10 rfl) ?_
    exact r_pI hK (i := 77) (c := 10) rfl (rn_some rfl)
  · refine r_gP hK 0 11 4 201 rfl (by decide) ?_
    refine rn_eq (v := wI (wI (wI d (z + 77) 5 0) (z + 201) 4 0) (z + 201) 7 0) ?_ (rn_some rfl)
    refine rn_val ?_
    unfold f_X4_forget
    refine rn_t (ks_o hK 201 4 rfl) ?_
    refine r_pI hK (i := 201) (c := 4) rfl ?_
    exact r_pI hK (i := 201) (c := 4) rfl (rn_some rfl)
/-- a CHANGE is kept, and the ways are forgotten -/
theorem k_change {s : AS} {qn qb : BL} (hNf : 30 ≤ N) (hK : KS s.1 z) (hw : OWS ow z) (hNK : WN K) (hN : WN R) (hG : WG R) (h1 : BK s.1 s.2 z ow 3 R qn) (h2 : BK s.1 s.2 z ow 40 K qb) : Rn (f_X11_change N z s) (fun s' => ∃ ow' q' s1, ES (IX z ow 40 76) s ow s1 ow' ∧ BK s1.1 s1.2 z ow' 40 R q' ∧ BK s1.1 s1.2 z ow' 3 R qn ∧ s' = (s1.1, wI (wI (wI (wI s1.2 z 13 1) (z + 77) 5 0) (z + 201) 4 0) (z + 201) 7 0) ∧ s1.1.1.2.2 + 2 * pot qb ≤ s.1.1.2.2 + 2 * pot q' ∧ s1.1.1.2.1 + pot qb ≤ s.1.1.2.1 + pot q') := by
  unfold f_X11_change
  rw [← z0 (z := z)]
  refine rn_t (ks_o hK 0 11 rfl) ?_
  refine r_gP hK 0 11 2 40 rfl (by decide) ?_
  refine r_gP hK 0 11 1 3 rfl (by decide) ?_
  refine rn_bind (bk_become hNf (Or.inr rfl) (Or.inl rfl) (by omega) hK hw hNK hN hG h2 h1) (fun s1 hs => ?_)
  obtain ⟨ow1, q1, e1, x1, w1, m1⟩ := hs
  have hK1 := KS.es hK e1
  have x2 := bk_ix h1 (Or.inl rfl) hK hw e1 (by omega)
  unfold f_X11_change_11
  refine r_pI hK1 (i := 0) (c := 11) rfl ?_
  rw [z0]
  refine rn_eq (k_forget hK1) ?_
  exact rn_some ⟨ow1, q1, s1, e1, x1, x2, rfl, w1, m1⟩
end CH
