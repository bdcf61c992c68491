/-! text() of both: they run, and answer -/
theorem nar_c (v : Int32) : fits .char (.int (vp_nar .char v)) = true := by
  rw [vp_nar_char]
  have h : v.toUInt32.toUInt16.toNat < 65536 := v.toUInt32.toUInt16.toNat_lt
  have e : v.toUInt32.toUInt16.toUInt32.toInt32 = nI v.toUInt32.toUInt16.toNat := by
    apply Int32.toBitVec_inj.mp
    apply BitVec.eq_of_toNat_eq
    simp [nI]
    rw [Nat.mod_eq_of_lt (a := v.toUInt32.toNat % 65536) (by omega)]
    rfl
  rw [e]
  show (decide ((0 : Int32) ≤ nI v.toUInt32.toUInt16.toNat) && decide (nI v.toUInt32.toUInt16.toNat ≤ (65535 : Int32))) = true
  rw [Bool.and_eq_true, decide_eq_true_iff, decide_eq_true_iff]
  exact ⟨nI_le (a := 0) (Nat.zero_le _) (by omega), nI_le (b := 65535) (by omega) (by decide)⟩
theorem dv10 {x : Int32} : o_idiv x 10 = some (x / 10) := if_neg (by decide)
theorem dv100 {x : Int32} : o_idiv x 100 = some (x / 100) := if_neg (by decide)
theorem rm10 {x : Int32} : o_irem x 10 = some (x - x / 10 * 10) := if_neg (by decide)
section TXT
variable {s s' s0 : AS} {sh : Sh} {d d0 d' : Dt} {z : Nat} {ow ow' : Nat → Nat} {R K : Nat → Int32} {u : Bool} {y : YL} {N cc i p g D : Nat} {q : BL} {l3 : Int32}
/-- signs still to come behind the digits -/
def exL (l3 : Int32) : Nat := if l3 = -1 then 0 else 1
theorem ci_tx {Lg' : Nat} (h : CI s z ow R K u y cc) (he : ES (IX z ow 0 0) s ow s' ow') (h13 : s'.2.1 (z + 0) 13 = s.2.1 (z + 0) 13) (ht : ∃ a g, s'.2.2.2.2 (z + 0) 11 = some a ∧ ow' a = 1 ∧ isA s'.1 a 3 ∧ s'.1.2.2.1 a = Lg' ∧ 16 ≤ Lg' ∧ Lg' ≤ 16000 ∧ s'.2.1 (z + 0) 12 = nI g ∧ g ≤ Lg' ∧ ∀ i, i < g → fits .char (.int (s'.2.1 a i)) = true) (m1 : s'.1.1.2.2 + 2 * y.2.2.2.2 ≤ s.1.1.2.2 + 2 * Lg') (m2 : s'.1.1.2.1 + y.2.2.2.2 ≤ s.1.1.2.1 + Lg') : CI s' z ow' R K u (y.1, y.2.1, y.2.2.1, y.2.2.2.1, Lg') cc ∧ RFR z s s' := by
  obtain ⟨hK, hw, b1, b2, b3, b4, b5, b6, b7, b8, b9, b10, b11⟩ := h
  have hcs : CS s'.1 s'.2 z ow' y.2.2.1 y.2.2.2.1 Lg' := by
    obtain ⟨⟨h1, h2, h3⟩, ⟨⟨S, V, h4, h5⟩, h6⟩, ⟨a, t1, t2, t3, t4, t5, t6⟩, -⟩ := b3
    have e1 := he.1
    have e2 := he.2.1
    have qa := he.2.2 a t3.2.1
    have r78 := es_row hK hw he (i := 78) (by decide) (by omega)
    have r140 := es_row hK hw he (i := 140) (by decide) (by omega)
    have r203 := es_row hK hw he (i := 203) (by decide) (by omega)
    have r201 := es_row hK hw he (i := 201) (by decide) (by omega)
    have l1 := t3.2.1
    exact ⟨⟨fun c hc => by rw [r78.2.2.2]; exact h1 c hc, fun c hc => by rw [r140.2.2.2]; exact h2 c hc, fun c hc => by rw [r203.2.2.2]; exact h3 c hc⟩, ⟨⟨S, V, tb_ix h4 hK hw (by decide) he (by omega), h5⟩, h6⟩, ⟨a, by rw [r201.2.2.2]; exact t1, by rw [qa.2.2.2.1]; exact t2, ⟨by rw [e1]; exact t3.1, by omega, by rw [qa.1]; exact t3.2.2⟩, by rw [qa.2.1]; exact t4, t5, t6⟩, ht⟩
  refine ⟨⟨KS.es hK he, OWS.es hw hK he, bk_ix b1 (Or.inl rfl) hK hw he (by omega), bk_ix b2 (Or.inr rfl) hK hw he (by omega), hcs, pb_ix b4 hK hw he (by omega) (by omega), pb_ix b5 hK hw he (by omega) (by omega), wy_ix b6 hK hw he (by omega), prl_ix b7 hK hw he (by omega), prt_ix b8 b3 hK hw he (by omega), by rw [h13]; exact b9, ?_, ?_, tln_eq b11.2 (congrFun (es_row hK hw he (i := 201) (by decide) (by omega)).1 7)⟩, RFR.ix hK hw he (by omega)⟩
  · show s'.1.1.2.2 ≤ 75638 + 2 * (pot y.1 + pot y.2.1 + smN y.2.2.1 4 + y.2.2.2.1 + Lg') + 5 * cc
    omega
  · have b11 := b11.1
    show s'.1.1.2.1 ≤ z + 264 + (pot y.1 + pot y.2.1 + smN y.2.2.1 4 + y.2.2.2.1 + Lg') + cc
    omega
def TXI (s0 : AS) (z : Nat) (R K : Nat → Int32) (u : Bool) (cc g : Nat) (s : AS) : Prop := RFR z s0 s ∧ ∃ ow y, CI s z ow R K u y cc ∧ s.2.1 (z + 0) 12 = nI g
theorem k_put41 {v : Int32} (h : CI s z ow R K u y cc) (e7 : s.2.1 (z + 0) 12 = nI g) (hg : g < y.2.2.2.2) : Rn (f_X11_put_41 N (z + 0) v s) (TXI s z R K u cc (g + 1)) := by
  have hK := h.1
  have hw := h.2.1
  obtain ⟨a, g', e1, e2, e3, e4, e5, e6, e8, e9, e10⟩ := h.2.2.2.2.1.2.2.2
  have eg : g' = g := nI_inj (e8.symm.trans e7) (by omega) (by omega)
  subst eg
  have w0 := hw 0 (by decide) (by decide)
  have hne : a ≠ z + 0 := fun e => by rw [e, w0] at e2; omega
  unfold f_X11_put_41
  refine r_gQ hK a e1 (i := 0) (c := 11) rfl ?_
  refine r_gI hK (i := 0) (c := 11) rfl ?_
  rw [e7]
  refine rn_eq (q_sC ⟨e3, e4⟩ g' rfl hg (by omega)) ?_
  refine r_gI hK (i := 0) (c := 11) rfl ?_
  rw [wI_n (Ne.symm hne), e7, nI_1]
  refine r_pI hK (i := 0) (c := 11) rfl ?_
  have fd : FD (IX z ow 0 0) s.2 (wI (wI s.2 a g' (vp_nar .char v)) (z + 0) 12 (nI (g' + 1))) := fun b hb => by
    have b1 : b ≠ a := fun e => hb (by rw [e]; unfold IX; rw [onr_r (o := 0) (k := 0) e2 (by omega)]; omega)
    have b2 : b ≠ z + 0 := fun e => hb (by rw [e]; unfold IX; rw [onr_s w0 (by decide)]; omega)
    exact ⟨by rw [wI_n b2, wI_n b1], rfl, rfl, rfl⟩
  have es : ES (IX z ow 0 0) s ow (s.1, wI (wI s.2 a g' (vp_nar .char v)) (z + 0) 12 (nI (g' + 1))) ow := FD.es (sh := s.1) (d := s.2) fd
  have c1 := ci_tx (Lg' := y.2.2.2.2) h es ?_ ⟨a, g' + 1, e1, e2, e3, e4, e5, e6, ?_, by omega, fun j hj => ?_⟩ (Nat.le_refl _) (Nat.le_refl _)
  · refine rn_some ⟨c1.2, ow, _, c1.1, ?_⟩
    show (wI (wI s.2 a g' (vp_nar .char v)) (z + 0) 12 (nI (g' + 1))).1 (z + 0) 12 = _
    rw [wI_s, va_up_s]
  · show (wI (wI s.2 a g' (vp_nar .char v)) (z + 0) 12 (nI (g' + 1))).1 (z + 0) 13 = _
    rw [wI_s, va_up_n (by decide), wI_n (Ne.symm hne)]
  · show (wI (wI s.2 a g' (vp_nar .char v)) (z + 0) 12 (nI (g' + 1))).1 (z + 0) 12 = _
    rw [wI_s, va_up_s]
  · show fits .char (.int ((wI (wI s.2 a g' (vp_nar .char v)) (z + 0) 12 (nI (g' + 1))).1 a j)) = true
    rw [wI_n hne, wI_s]
    by_cases ej : j = g'
    · rw [ej, va_up_s]
      exact nar_c v
    · rw [va_up_n ej]
      exact e10 j (by omega)
theorem TXI.tr {g' : Nat} (hf : RFR z s0 s) (h : TXI s z R K u cc g' s') : TXI s0 z R K u cc g' s' := ⟨hf.tr h.1, h.2⟩
theorem k_put {v : Int32} (h : TXI s0 z R K u cc g s) (hg : g < 8000) : Rn (f_X11_put N z v s) (TXI s0 z R K u cc (g + 1)) := by
  obtain ⟨hf, ow, y, h, e7⟩ := h
  have hK := h.1
  have hw := h.2.1
  obtain ⟨a, g', e1, e2, e3, e4, e5, e6, e8, e9, e10⟩ := h.2.2.2.2.1.2.2.2
  have eg : g' = g := nI_inj (e8.symm.trans e7) (by omega) (by omega)
  subst eg
  have w0 := hw 0 (by decide) (by decide)
  have hne : a ≠ z + 0 := fun e => by rw [e, w0] at e2; omega
  have mn : ∀ {o : Option AS} {s1 : AS}, RFR z s0 s1 → Rn o (TXI s1 z R K u cc (g' + 1)) → Rn o (TXI s0 z R K u cc (g' + 1)) := fun f r => by
    obtain ⟨r1, r2, r3⟩ := r
    exact ⟨r1, r2, r3.tr f⟩
  unfold f_X11_put
  have zz := z0 (z := z)
  show Rn (if isO s.1 z 11 then _ else none) _
  refine rn_t (by rw [← zz]; exact ks_o hK 0 11 rfl) ?_
  rw [show gI s.1 s.2 z 11 12 = gI s.1 s.2 (z + 0) 11 12 from rfl]
  refine r_gI hK (i := 0) (c := 11) rfl ?_
  rw [show gQ s.1 s.2 z 11 11 = gQ s.1 s.2 (z + 0) 11 11 from rfl]
  refine r_gQ hK a e1 (i := 0) (c := 11) rfl ?_
  refine rn_eq (q_len ⟨e3, e4⟩ (by decide)) ?_
  rw [e7]
  refine rn_ite (fun q1 => ?_) (fun q1 => ?_)
  · have q1 := (nI_ltI (by omega) (by omega)).mp q1
    exact mn hf (k_put41 h e7 q1)
  · have q1 : y.2.2.2.2 ≤ g' := Nat.le_of_not_lt (fun r => q1 (nI_lt r (by omega)))
    refine r_gQ hK a e1 (i := 0) (c := 11) rfl ?_
    refine rn_eq (q_len ⟨e3, e4⟩ (by decide)) ?_
    have hz := hK.2.1
    have hz1 := hK.1
    have e22 : (2 : Int32) * nI y.2.2.2.2 = nI (2 * y.2.2.2.2) := pk_mul 2 _
    rw [e22]
    have hnew : nArr (s.1, s.2) 3 (nI (2 * y.2.2.2.2)) = some (push s 3 (2 * y.2.2.2.2) (2 * y.2.2.2.2)) := by
      unfold nArr
      rw [nI_clamp (by omega), if_pos ⟨nI_pos (by omega), by omega⟩]
    refine rn_eq hnew ?_
    have hlt : a < s.1.1.2.1 := e3.2.1
    have hes : ES (IX z ow 0 0) s ow (push s 3 (2 * y.2.2.2.2) (2 * y.2.2.2.2)) (va_up ow s.1.1.2.1 1) := push_es (q := 1)
    have hK1 : KS (push s 3 (2 * y.2.2.2.2) (2 * y.2.2.2.2)).1 z := KS.es hK hes
    have hA := push_A (s := s) (t := 3) (n := 2 * y.2.2.2.2) (m := 2 * y.2.2.2.2) (a := a) ⟨e3, e4⟩
    have hB := push_N (s := s) (t := 3) (n := 2 * y.2.2.2.2) (m := 2 * y.2.2.2.2) (by omega)
    have pA : (push s 3 (2 * y.2.2.2.2) (2 * y.2.2.2.2)).2.1 a = s.2.1 a := va_up_n (by omega)
    have p0 : (push s 3 (2 * y.2.2.2.2) (2 * y.2.2.2.2)).2.1 (z + 0) = s.2.1 (z + 0) := va_up_n (by omega)
    have pQ0 : (push s 3 (2 * y.2.2.2.2) (2 * y.2.2.2.2)).2.2.2.2 (z + 0) = s.2.2.2.2 (z + 0) := va_up_n (by omega)
    have hcp : cpy (push s 3 (2 * y.2.2.2.2) (2 * y.2.2.2.2)).1 (push s 3 (2 * y.2.2.2.2) (2 * y.2.2.2.2)).2 a (0 : Int32) s.1.1.2.1 (0 : Int32) (nI g') = some (va_up (push s 3 (2 * y.2.2.2.2) (2 * y.2.2.2.2)).2.1 s.1.1.2.1 (va_cpy ((push s 3 (2 * y.2.2.2.2) (2 * y.2.2.2.2)).2.1 a) ((push s 3 (2 * y.2.2.2.2) (2 * y.2.2.2.2)).2.1 s.1.1.2.1) 0 0 g'), (push s 3 (2 * y.2.2.2.2) (2 * y.2.2.2.2)).2.2) := by
      unfold cpy
      rw [if_neg (by rw [hA.1.2.2]; decide), if_pos (by rw [hA.1.2.2])]
      unfold cpC
      have ez : (0 : Int32).toNatClampNeg = 0 := by decide
      rw [nI_clamp (by omega), if_pos (fun i hi => by rw [ez, Nat.zero_add, pA]; exact e10 i hi)]
      unfold cpI
      rw [hA.2, hB.2, ez, nI_clamp (by omega), if_pos ⟨hA.1, hB.1, by decide, by decide, nI_pos (by omega), by omega, by omega⟩]
    have hcy : ∀ i, i < g' → va_cpy (s.2.1 a) ((push s 3 (2 * y.2.2.2.2) (2 * y.2.2.2.2)).2.1 s.1.1.2.1) 0 0 g' i = s.2.1 a i := fun i hi => by
      show (if 0 ≤ i ∧ i < 0 + g' then s.2.1 a (0 + (i - 0)) else _) = _
      rw [if_pos (by omega), Nat.sub_zero, Nat.zero_add]
    unfold f_X11_put_21
    refine r_gQ hK1 a (by rw [pQ0]; exact e1) (i := 0) (c := 11) rfl ?_
    refine r_gI hK1 (i := 0) (c := 11) rfl ?_
    rw [p0, e7]
    refine rn_eq hcp ?_
    refine r_pQ hK1 (i := 0) (c := 11) rfl ?_
    rw [pA]
    have w01 : (va_up ow s.1.1.2.1 1) (z + 0) = 0 := by rw [va_up_n (by omega)]; exact w0
    have es2 : ES (IX z ow 0 0) s ow ((push s 3 (2 * y.2.2.2.2) (2 * y.2.2.2.2)).1, wQ (va_up (push s 3 (2 * y.2.2.2.2) (2 * y.2.2.2.2)).2.1 s.1.1.2.1 (va_cpy (s.2.1 a) ((push s 3 (2 * y.2.2.2.2) (2 * y.2.2.2.2)).2.1 s.1.1.2.1) 0 0 g'), (push s 3 (2 * y.2.2.2.2) (2 * y.2.2.2.2)).2.2) (z + 0) 11 s.1.1.2.1) (va_up ow s.1.1.2.1 1) := es_fd hes (fun b hb => by
      have b1 : b ≠ s.1.1.2.1 := fun e => hb (by rw [e]; unfold IX; rw [onr_r (o := 0) (k := 0) (ow := va_up ow s.1.1.2.1 1) va_up_s (by omega)]; omega)
      have b2 : b ≠ z + 0 := fun e => hb (by rw [e]; unfold IX; rw [onr_s w01 (by decide)]; omega)
      exact ⟨va_up_n b1, rfl, rfl, up2_n b2⟩)
    have hlen : 2 * y.2.2.2.2 ≤ 16000 := by omega
    have c1 := ci_tx (Lg' := 2 * y.2.2.2.2) h es2 ?_ ⟨s.1.1.2.1, g', ?_, va_up_s, hB.1, hB.2, by omega, hlen, ?_, by omega, fun j hj => ?_⟩ ?_ ?_
    · refine mn (hf.tr c1.2) (k_put41 c1.1 ?_ (show g' < 2 * y.2.2.2.2 by omega))
      show va_up (push s 3 (2 * y.2.2.2.2) (2 * y.2.2.2.2)).2.1 s.1.1.2.1 _ (z + 0) 12 = _
      rw [va_up_n (by omega), p0, e7]
    · show va_up (push s 3 (2 * y.2.2.2.2) (2 * y.2.2.2.2)).2.1 s.1.1.2.1 _ (z + 0) 13 = _
      rw [va_up_n (by omega), p0]
    · show up2 _ (z + 0) 11 (some s.1.1.2.1) (z + 0) 11 = _
      rw [up2_s, va_up_s]
    · show va_up (push s 3 (2 * y.2.2.2.2) (2 * y.2.2.2.2)).2.1 s.1.1.2.1 _ (z + 0) 12 = _
      rw [va_up_n (by omega), p0, e7]
    · show fits .char (.int (va_up (push s 3 (2 * y.2.2.2.2) (2 * y.2.2.2.2)).2.1 s.1.1.2.1 _ s.1.1.2.1 j)) = true
      rw [va_up_s, hcy j hj]
      exact e10 j hj
    · show s.1.1.2.2 + 2 * y.2.2.2.2 + 2 * y.2.2.2.2 ≤ s.1.1.2.2 + 2 * (2 * y.2.2.2.2)
      omega
    · show s.1.1.2.1 + 1 + y.2.2.2.2 ≤ s.1.1.2.1 + 2 * y.2.2.2.2
      omega
theorem k_w151 (h : TXI s0 z R K u cc g s) (hg : g + exL l3 ≤ 8000) : Rn (f_X11_write_151 N z l3 s) (fun r => ∃ g', g' ≤ 8000 ∧ TXI s0 z R K u cc g' r.2) := by
  unfold f_X11_write_151 f_X11_write_165
  refine rn_ite (fun _ => rn_some ⟨g, by omega, h⟩) (fun h1 => ?_)
  unfold exL at hg
  rw [if_neg h1] at hg
  exact rn_bind (k_put h (by omega)) (fun s2 hs => rn_some ⟨g + 1, hg, hs⟩)
theorem k_w139 {l2 : Int32} (h : TXI s0 z R K u cc g s) (hg : g + 1 + exL l3 ≤ 8000) : Rn (f_X11_write_139 N z l2 l3 s) (fun r => ∃ g', g' ≤ 8000 ∧ TXI s0 z R K u cc g' r.2) := by
  unfold f_X11_write_139
  refine rn_eq rm10 ?_
  exact rn_bind (k_put h (by omega)) (fun s2 hs => k_w151 hs hg)
theorem k_w118 {l2 : Int32} (h : TXI s0 z R K u cc g s) (hD : D ≤ 3) (hD1 : 1 ≤ D) (hg : g + min D 2 + exL l3 ≤ 8000) : Rn (f_X11_write_118 N z l2 l3 (nI D) s) (fun r => ∃ g', g' ≤ 8000 ∧ TXI s0 z R K u cc g' r.2) := by
  unfold f_X11_write_118
  refine rn_ite (fun q => ?_) (fun q => ?_)
  · exact k_w139 h (by omega)
  · have : ¬ D ≤ 1 := fun r => q (nI_le (b := 1) r (by decide))
    refine rn_eq dv10 ?_
    refine rn_eq rm10 ?_
    exact rn_bind (k_put h (by omega)) (fun s2 hs => k_w139 hs (by omega))
theorem k_w100 {l2 : Int32} (h : TXI s0 z R K u cc g s) (hD : D ≤ 3) (hD1 : 1 ≤ D) (hg : g + D + exL l3 ≤ 8000) : Rn (f_X11_write_100 N z l2 l3 (nI D) s) (fun r => ∃ g', g' ≤ 8000 ∧ TXI s0 z R K u cc g' r.2) := by
  unfold f_X11_write_100
  refine rn_ite (fun q => ?_) (fun q => ?_)
  · exact k_w118 h hD hD1 (by omega)
  · have : ¬ D ≤ 2 := fun r => q (nI_le (b := 2) r (by decide))
    refine rn_eq dv100 ?_
    exact rn_bind (k_put h (by omega)) (fun s2 hs => k_w118 hs hD hD1 (by omega))
theorem k_w97 {l2 v : Int32} (h : TXI s0 z R K u cc g s) (hD : D ≤ 3) (hD1 : 1 ≤ D) (hg : g + 1 + D + exL l3 ≤ 8000) : Rn (f_X11_write_97 N z l2 l3 (nI D) z v s) (fun r => ∃ g', g' ≤ 8000 ∧ TXI s0 z R K u cc g' r.2) := by
  unfold f_X11_write_97
  exact rn_bind (k_put h (by omega)) (fun s2 hs => k_w100 hs hD hD1 hg)
theorem k_w43 {l2 : Int32} (hR : WF R) (hi : i < nn R 4) (h : TXI s0 z R K u cc g s) (hg : g ≤ 8000) (hD : D ≤ 3) (hD1 : 1 ≤ D) : Rn (f_X11_write_43 N z (nI i) l2 l3 (nI D) s) (fun r => ∃ g', g' ≤ 8000 ∧ TXI s0 z R K u cc g' r.2) := by
  obtain ⟨hf, ow, y, hC, e7⟩ := id h
  have hK := hC.1
  have hB : BK s.1 s.2 z ow 3 R y.1 := hC.2.2.1
  unfold f_X11_write_43
  rw [show gI s.1 s.2 z 11 12 = gI s.1 s.2 (z + 0) 11 12 from rfl]
  refine r_gI hK (i := 0) (c := 11) rfl ?_
  rw [e7, nI_1, show nI (g + 1) + nI D = nI (g + 1 + D) from nI_add _ _]
  have go : ∀ e, e = exL l3 → Rn (f_X11_write_64 N z (nI i) l2 l3 (nI D) (nI (g + 1 + D)) (nI e) s) (fun r => ∃ g', g' ≤ 8000 ∧ TXI s0 z R K u cc g' r.2) := fun e he => by
    unfold f_X11_write_64
    rw [nI_add]
    have he1 : e ≤ 1 := by rw [he]; unfold exL; by_cases q : l3 = -1 <;> simp [q]
    refine rn_ite (fun q => ?_) (fun q => rn_some ⟨g, hg, h⟩)
    have q := (nI_leI (b := 8000) (by omega) (by decide)).mp q
    refine r_now hK 4 31 (by decide) ?_
    refine rn_eq (tb_get (o := 31) (nc := 4) (c := 3) hK (by decide) hB.2.2.2.2.1 rfl hi rfl (by decide)) ?_
    exact rn_ite (fun _ => k_w97 h hD hD1 (by omega)) (fun _ => k_w97 h hD hD1 (by omega))
  refine rn_ite (fun q => ?_) (fun q => ?_)
  · exact go 1 (by unfold exL; rw [if_neg q])
  · exact go 0 (by unfold exL; rw [if_pos (Decidable.of_not_not q)])
theorem k_who_loop {x : Int32} (hR : WF R) (hK : KS sh z) (hB : BK sh d z ow 3 R q) : ∀ (m i fu : Nat), i + m = nn R 3 → m < fu → Rn (f_X1_whoEndsAt_2 N sh d fu (z + 3) x (nI i)) (fun _ => True)
  | 0, i, fu, hc, hf => by
    obtain ⟨fu, rfl⟩ : ∃ q, fu = q + 1 := ⟨fu - 1, by omega⟩
    have n3 := hR.1.2.2.2.1
    show Rn (g_X1_whoEndsAt_2 N sh (f_X1_whoEndsAt_2 N sh d fu) (z + 3) x (nI i) d) _
    unfold g_X1_whoEndsAt_2 f_X1_whoEndsAt_52
    refine r_gP hK 3 1 3 20 rfl (by decide) ?_
    refine r_gI hK (i := 20) (c := 8) rfl ?_
    rw [hB.2.2.2.1.1]
    exact rn_t (nI_le (by omega) (by omega)) (rn_some trivial)
  | m + 1, i, fu, hc, hf => by
    obtain ⟨fu, rfl⟩ : ∃ q, fu = q + 1 := ⟨fu - 1, by omega⟩
    have n3 := hR.1.2.2.2.1
    have hi : i < nn R 3 := by omega
    show Rn (g_X1_whoEndsAt_2 N sh (f_X1_whoEndsAt_2 N sh d fu) (z + 3) x (nI i) d) _
    unfold g_X1_whoEndsAt_2
    refine r_gP hK 3 1 3 20 rfl (by decide) ?_
    refine r_gI hK (i := 20) (c := 8) rfl ?_
    rw [hB.2.2.2.1.1]
    refine rn_f (nI_ge (by omega) (by omega)) ?_
    refine r_gP hK 3 1 3 20 rfl (by decide) ?_
    refine rn_eq (tb_get (o := 20) (nc := 9) (c := 1) hK (by decide) hB.2.2.2.1 rfl hi rfl (by decide)) ?_
    have nx : Rn (f_X1_whoEndsAt_46 N sh (f_X1_whoEndsAt_2 N sh d fu) (z + 3) x (nI i) d) (fun _ => True) := by
      unfold f_X1_whoEndsAt_46
      rw [nI_1]
      exact k_who_loop hR hK hB m (i + 1) fu (by omega) (by omega)
    refine rn_ite (fun _ => nx) (fun _ => ?_)
    refine r_gP hK 3 1 3 20 rfl (by decide) ?_
    refine rn_eq (tb_get (o := 20) (nc := 9) (c := 0) hK (by decide) hB.2.2.2.1 rfl hi rfl (by decide)) ?_
    exact rn_ite (fun _ => nx) (fun _ => rn_some trivial)
theorem k_write (hNf : 300 ≤ N) (hR : WF R) (hi : i < nn R 4) (h : TXI s0 z R K u cc g s) (hg : g ≤ 8000) : Rn (f_X11_write N z (nI i) s) (fun r => ∃ g', g' ≤ 8000 ∧ TXI s0 z R K u cc g' r.2) := by
  obtain ⟨hf, ow, y, hC, e7⟩ := id h
  have hK := hC.1
  have hB : BK s.1 s.2 z ow 3 R y.1 := hC.2.2.1
  have n3 := hR.1.2.2.2.1
  unfold f_X11_write
  refine rn_t (by rw [← z0 (z := z)]; exact ks_o hK 0 11 rfl) ?_
  refine r_now hK 4 31 (by decide) ?_
  refine rn_eq (tb_get (o := 31) (nc := 4) (c := 0) hK (by decide) hB.2.2.2.2.1 rfl hi rfl (by decide)) ?_
  rw [show gP s.1 z 11 1 = gP s.1 (z + 0) 11 1 from rfl]
  refine r_gP hK 0 11 1 3 rfl (by decide) ?_
  refine rn_bind (P := fun _ => True) ?_ (fun v _ => ?_)
  · unfold f_X1_whoEndsAt
    refine rn_t (ks_o hK 3 1 rfl) ?_
    exact k_who_loop hR hK hB (nn R 3) 0 N (by omega) (by omega)
  · refine rn_ite (fun _ => ?_) (fun _ => k_w43 (D := 1) hR hi h hg (by omega) (by omega))
    exact rn_ite (fun _ => k_w43 (D := 3) hR hi h hg (by omega) (by omega)) (fun _ => k_w43 (D := 2) hR hi h hg (by omega) (by omega))
def KT (s0 : AS) (z : Nat) (R K : Nat → Int32) (u : Bool) (cc : Nat) (r : Int32 × AS) : Prop := KO z R K u cc (r.1, none) s0 r
theorem ktx_loop (hNf : 300 ≤ N) (hR : WF R) : ∀ (m i fu g : Nat) (l1 : Int32) (s : AS), i + m = nn R 4 → m < fu → TXI s0 z R K u cc g s → g ≤ 8000 → Rn (f_X11_text_9 N fu z l1 (nI i) s) (KT s0 z R K u cc)
  | m, i, fu, g, l1, s, hc, hf, h, hg => by
    obtain ⟨fu, rfl⟩ : ∃ q, fu = q + 1 := ⟨fu - 1, by omega⟩
    obtain ⟨hF, ow, y, hC, e7⟩ := id h
    have hK := hC.1
    have hB : BK s.1 s.2 z ow 3 R y.1 := hC.2.2.1
    have n4 := hR.1.2.2.2.2
    have fin : Rn (f_X11_text_39 N z s) (KT s0 z R K u cc) := by
      unfold f_X11_text_39
      rw [show gI s.1 s.2 z 11 12 = gI s.1 s.2 (z + 0) 11 12 from rfl]
      refine r_gI hK (i := 0) (c := 11) rfl ?_
      refine rn_bind (k_answer hK) (fun r hr => rn_some ?_)
      exact ⟨rfl, hF.tr (ci_lg hC hr.2).2, ow, y, (ci_lg hC hr.2).1⟩
    show Rn (g_X11_text_9 N (f_X11_text_9 N fu) z l1 (nI i) s) _
    unfold g_X11_text_9
    refine r_now hK 4 31 (by decide) ?_
    refine r_gI hK (i := 31) (c := 8) rfl ?_
    rw [hB.2.2.2.2.1.1]
    cases m with
    | zero => exact rn_t (nI_le (by omega) (by omega)) fin
    | succ m =>
      refine rn_f (nI_ge (by omega) (by omega)) ?_
      refine rn_ite (fun _ => fin) (fun _ => ?_)
      refine rn_bind (k_write hNf hR (by omega) h hg) (fun r hr => ?_)
      obtain ⟨g', b1, b2⟩ := hr
      unfold f_X11_text_32
      rw [nI_1]
      exact ktx_loop hNf hR m (i + 1) fu g' r.1 r.2 (by omega) (by omega) b2 b1
theorem k_text (hNf : 2100 ≤ N) (h : CI s z ow R K u y cc) (hR : WF R) : Rn (f_X11_text N z s) (KT s z R K u cc) := by
  have hK := h.1
  have hw := h.2.1
  have n4 := hR.1.2.2.2.2
  have w0 := hw 0 (by decide) (by decide)
  obtain ⟨a, g, e1, e2, e3, e4, e5, e6, e8, e9, e10⟩ := h.2.2.2.2.1.2.2.2
  have hne : a ≠ z + 0 := fun e => by rw [e, w0] at e2; omega
  unfold f_X11_text
  refine rn_t (by rw [← z0 (z := z)]; exact ks_o hK 0 11 rfl) ?_
  rw [show pI s.1 s.2 z 11 12 0 = pI s.1 s.2 (z + 0) 11 12 0 from rfl]
  refine r_pI hK (i := 0) (c := 11) rfl ?_
  have fd : FD (IX z ow 0 0) s.2 (wI s.2 (z + 0) 12 0) := fun b hb => by
    have b2 : b ≠ z + 0 := fun e => hb (by rw [e]; unfold IX; rw [onr_s w0 (by decide)]; omega)
    exact ⟨wI_n b2, rfl, rfl, rfl⟩
  have es : ES (IX z ow 0 0) s ow (s.1, wI s.2 (z + 0) 12 0) ow := FD.es (sh := s.1) (d := s.2) fd
  have c1 := ci_tx (Lg' := y.2.2.2.2) h es ?_ ⟨a, 0, e1, e2, e3, e4, e5, e6, ?_, by omega, fun j hj => absurd hj (Nat.not_lt_zero j)⟩ (Nat.le_refl _) (Nat.le_refl _)
  · refine ktx_loop (by omega) hR (nn R 4) 0 N 0 1 _ (by omega) (by omega) ⟨c1.2, ow, _, c1.1, ?_⟩ (by omega)
    show (wI s.2 (z + 0) 12 0).1 (z + 0) 12 = _
    rw [wI_s, va_up_s]
    rfl
  · show (wI s.2 (z + 0) 12 0).1 (z + 0) 13 = _
    rw [wI_s, va_up_n (by decide)]
  · show (wI s.2 (z + 0) 12 0).1 (z + 0) 12 = _
    rw [wI_s, va_up_s]
    rfl
/-! the reference -/
def TXR (d0 : Dt) (z : Nat) (R K : Nat → Int32) (u : Bool) (g : Nat) (d : Dt) : Prop := MFR z d0 d ∧ RI d z R K u ∧ d.1 (z + 242) 8 = nI g
theorem m_writes_ {v : Int32} (hK : KS sh z) (h : TXR d0 z R K u g d) (hg : g < 8000) : Rn (f_X12_writes_ N sh (z + 242) v d) (TXR d0 z R K u (g + 1)) := by
  obtain ⟨hM, ⟨r1, r2, r3, r4, r5⟩, e8⟩ := h
  unfold f_X12_writes_
  refine rn_t (ks_o hK 242 12 rfl) ?_
  refine r_gP hK 242 12 7 246 rfl (by decide) ?_
  refine r_gI hK (i := 242) (c := 12) rfl ?_
  rw [e8]
  refine rn_eq (q_sC (ks_a hK 246 3 8000 rfl) g rfl hg (by decide)) ?_
  refine r_gI hK (i := 242) (c := 12) rfl ?_
  rw [wI_n (by omega), e8, nI_1]
  refine r_pI hK (i := 242) (c := 12) rfl ?_
  generalize (vp_nar FieldType.char (v.toUInt32 % 65536).toInt32) = w
  have o : ∀ a, a ≠ z + 242 → a ≠ z + 246 → (wI (wI d (z + 246) g w) (z + 242) 8 (nI (g + 1))).1 a = d.1 a := fun a h1 h2 => by rw [wI_n h1, wI_n h2]
  have f : ∀ k, k ≠ 8 → (wI (wI d (z + 246) g w) (z + 242) 8 (nI (g + 1))).1 (z + 242) k = d.1 (z + 242) k := fun k hk => by rw [wI_s, va_up_n hk, wI_n (by omega)]
  have f8 : (wI (wI d (z + 246) g w) (z + 242) 8 (nI (g + 1))).1 (z + 242) 8 = nI (g + 1) := by rw [wI_s, va_up_s]
  refine rn_some ⟨hM.tr ((MFR.wI (i := 246) (by decide) (by decide)).tr (MFR.wI (i := 242) (by decide) (by decide))), ⟨?_, ?_, ?_, ⟨g + 1, by omega, f8⟩, ?_⟩, f8⟩
  · rw [o _ (by omega) (by omega)]
    exact r1
  · rw [o _ (by omega) (by omega)]
    exact r2
  · rw [f 2 (by decide)]
    exact r3
  · rw [f 10 (by decide), o _ (by omega) (by omega)]
    exact r5
section RTX
variable {k : Nat → Int32 → Int32 → Dt → Option (Int32 × Dt)} {Q : Int32 × Dt → Prop} {l1 l2 l4 : Int32}
theorem m_x195 (h : TXR d0 z R K u g d) (hg : g ≤ 8000) (kk : ∀ l1 d g, g ≤ 8000 → TXR d0 z R K u g d → Rn (k (z + 242) l1 (nI (i + 1)) d) Q) : Rn (f_X12_text_195 N sh k (z + 242) l1 (nI i) d) Q := by
  unfold f_X12_text_195
  rw [nI_1]
  exact kk l1 d g hg h
theorem m_x169 (hK : KS sh z) (h : TXR d0 z R K u g d) (hg : g + 1 + exL l4 ≤ 8000) (kk : ∀ l1 d g, g ≤ 8000 → TXR d0 z R K u g d → Rn (k (z + 242) l1 (nI (i + 1)) d) Q) : Rn (f_X12_text_169 N sh k (z + 242) l1 (nI i) l3 l4 d) Q := by
  unfold f_X12_text_169
  refine rn_eq rm10 ?_
  refine rn_bind (m_writes_ hK h (by omega)) (fun d2 h2 => ?_)
  refine rn_ite (fun _ => m_x195 h2 (by omega) kk) (fun q => ?_)
  unfold exL at hg
  rw [if_neg q] at hg
  exact rn_bind (m_writes_ hK h2 (by omega)) (fun d3 h3 => m_x195 h3 (by omega) kk)
theorem m_x149 (hK : KS sh z) (h : TXR d0 z R K u g d) (hD : D ≤ 3) (hD1 : 1 ≤ D) (hg : g + min D 2 + exL l4 ≤ 8000) (kk : ∀ l1 d g, g ≤ 8000 → TXR d0 z R K u g d → Rn (k (z + 242) l1 (nI (i + 1)) d) Q) : Rn (f_X12_text_149 N sh k (z + 242) l1 (nI i) l3 l4 (nI D) d) Q := by
  unfold f_X12_text_149
  refine rn_ite (fun q => ?_) (fun q => ?_)
  · exact m_x169 hK h (by omega) kk
  · have : ¬ D ≤ 1 := fun r => q (nI_le (b := 1) r (by decide))
    refine rn_eq dv10 ?_
    refine rn_eq rm10 ?_
    exact rn_bind (m_writes_ hK h (by omega)) (fun d2 h2 => m_x169 hK h2 (by omega) kk)
theorem m_x129 {v : Int32} (hK : KS sh z) (h : TXR d0 z R K u g d) (hD : D ≤ 3) (hD1 : 1 ≤ D) (hg : g + 1 + D + exL l4 ≤ 8000) (kk : ∀ l1 d g, g ≤ 8000 → TXR d0 z R K u g d → Rn (k (z + 242) l1 (nI (i + 1)) d) Q) : Rn (f_X12_text_129 N sh k (z + 242) l1 (nI i) l3 l4 (nI D) (z + 242) v d) Q := by
  unfold f_X12_text_129
  refine rn_bind (m_writes_ hK h (by omega)) (fun d2 h2 => ?_)
  refine rn_ite (fun q => ?_) (fun q => ?_)
  · exact m_x149 hK h2 hD hD1 (by omega) kk
  · have : ¬ D ≤ 2 := fun r => q (nI_le (b := 2) r (by decide))
    refine rn_eq dv100 ?_
    exact rn_bind (m_writes_ hK h2 (by omega)) (fun d3 h3 => m_x149 hK h3 hD hD1 (by omega) kk)
theorem m_x64 (hK : KS sh z) (hR : WF R) (hi : i < nn R 4) (h : TXR d0 z R K u g d) (hg : g ≤ 8000) (hD : D ≤ 3) (hD1 : 1 ≤ D) (kk : ∀ l1 d g, g ≤ 8000 → TXR d0 z R K u g d → Rn (k (z + 242) l1 (nI (i + 1)) d) Q) : Rn (f_X12_text_64 N sh k (z + 242) (nI i) l3 l4 (nI D) d) Q := by
  have n4 := hR.1.2.2.2.2
  unfold f_X12_text_64
  refine r_gI hK (i := 242) (c := 12) rfl ?_
  rw [h.2.2, nI_1, show nI (g + 1) + nI D = nI (g + 1 + D) from nI_add _ _]
  have go : ∀ e, e = exL l4 → Rn (f_X12_text_86 N sh k (z + 242) (nI i) l3 l4 (nI D) (nI (g + 1 + D)) (nI e) d) Q := fun e he => by
    unfold f_X12_text_86 f_X12_text_98
    rw [nI_add]
    have he1 : e ≤ 1 := by rw [he]; unfold exL; by_cases q : l4 = -1 <;> simp [q]
    refine rn_ite (fun q => ?_) (fun q => ?_)
    · refine rn_t rfl ?_
      exact m_x195 h hg kk
    · have q : g + 1 + D + e ≤ 8000 := Nat.le_of_not_lt (fun r => q (nI_lt (a := 8000) r (by omega)))
      refine rn_f (by decide) ?_
      refine rdd hK h.2.1.1 (by omega) 2 (by decide) rfl ?_
      exact rn_ite (fun _ => m_x129 hK h hD hD1 (by omega) kk) (fun _ => m_x129 hK h hD hD1 (by omega) kk)
  refine rn_ite (fun q => ?_) (fun q => ?_)
  · exact go 0 (by unfold exL; rw [if_pos q])
  · exact go 1 (by unfold exL; rw [if_neg q])
end RTX
theorem m_end_loop {x : Int32} (hK : KS sh z) (hA : AG (d.1 (z + 243)) R) (hR : WF R) : ∀ (m i fu : Nat) (l2 : Int32), i + m = nn R 3 → m < fu → Rn (f_X12_endOf_4 N sh d fu (z + 242) x l2 (nI i)) (fun _ => True)
  | 0, i, fu, l2, hc, hf => by
    obtain ⟨fu, rfl⟩ : ∃ q, fu = q + 1 := ⟨fu - 1, by omega⟩
    have n3 := hR.1.2.2.2.1
    show Rn (g_X12_endOf_4 N sh (f_X12_endOf_4 N sh d fu) (z + 242) x l2 (nI i) d) _
    unfold g_X12_endOf_4 f_X12_endOf_86
    refine rdg hK hA 3 rfl (by decide) ?_
    rw [n3.1]
    exact rn_t (nI_le (by omega) (by omega)) (rn_some trivial)
  | m + 1, i, fu, l2, hc, hf => by
    obtain ⟨fu, rfl⟩ : ∃ q, fu = q + 1 := ⟨fu - 1, by omega⟩
    have n3 := hR.1.2.2.2.1
    have hi12 : i < 12 := by omega
    show Rn (g_X12_endOf_4 N sh (f_X12_endOf_4 N sh d fu) (z + 242) x l2 (nI i) d) _
    have nx : ∀ v, Rn (f_X12_endOf_79 N sh (f_X12_endOf_4 N sh d fu) (z + 242) x (nI i) v d) (fun _ => True) := fun v => by
      unfold f_X12_endOf_79
      rw [nI_1]
      exact m_end_loop hK hA hR m (i + 1) fu v (by omega) (by omega)
    unfold g_X12_endOf_4 f_X12_endOf_78
    refine rdg hK hA 3 rfl (by decide) ?_
    rw [n3.1]
    refine rn_f (nI_ge (by omega) (by omega)) ?_
    refine rn_eq (m_pl hK) ?_
    refine rdp hK hi12 5 (by decide) rfl (fun _ => ?_)
    refine rn_ite (fun _ => nx _) (fun _ => ?_)
    refine rdp hK hi12 7 (by decide) rfl (fun _ => ?_)
    refine rn_ite (fun _ => nx _) (fun _ => ?_)
    refine rdp hK hi12 6 (by decide) rfl (fun _ => ?_)
    refine rdp hK hi12 7 (by decide) rfl (fun _ => ?_)
    exact rn_ite (fun _ => nx _) (fun _ => nx _)
theorem mtx_loop (hNf : 300 ≤ N) (hK : KS sh z) (hR : WF R) : ∀ (m i fu g : Nat) (l1 : Int32) (d : Dt), i + m = nn R 4 → m < fu → TXR d0 z R K u g d → g ≤ 8000 → Rn (f_X12_text_9 N sh fu (z + 242) l1 (nI i) d) (RR z R K u d0)
  | m, i, fu, g, l1, d, hc, hf, h, hg => by
    obtain ⟨fu, rfl⟩ : ∃ q, fu = q + 1 := ⟨fu - 1, by omega⟩
    have n4 := hR.1.2.2.2.2
    have n3 := hR.1.2.2.2.1
    have fin : Rn (f_X12_text_201 N sh (z + 242) d) (RR z R K u d0) := by
      unfold f_X12_text_201
      refine r_gI hK (i := 242) (c := 12) rfl ?_
      exact rr_says hK h.2.1 h.1
    show Rn (g_X12_text_9 N sh (f_X12_text_9 N sh fu) (z + 242) l1 (nI i) d) _
    unfold g_X12_text_9
    refine rdg hK h.2.1.1 4 rfl (by decide) ?_
    rw [n4.1]
    cases m with
    | zero => exact rn_t (nI_le (by omega) (by omega)) fin
    | succ m =>
      have hi : i < nn R 4 := by omega
      refine rn_f (nI_ge (by omega) (by omega)) ?_
      refine rn_ite (fun _ => fin) (fun _ => ?_)
      refine rdd0 hK h.2.1.1 (by omega) ?_
      refine rn_bind (P := fun _ => True) ?_ (fun v _ => ?_)
      · unfold f_X12_endOf
        refine rn_t (ks_o hK 242 12 rfl) ?_
        exact m_end_loop hK h.2.1.1 hR (nn R 3) 0 N _ (by omega) (by omega)
      · have kk : ∀ l1 d g, g ≤ 8000 → TXR d0 z R K u g d → Rn (f_X12_text_9 N sh fu (z + 242) l1 (nI (i + 1)) d) (RR z R K u d0) := fun l1 d g b1 b2 => mtx_loop hNf hK hR m (i + 1) fu g l1 d (by omega) (by omega) b2 b1
        refine rn_ite (fun _ => ?_) (fun _ => m_x64 (D := 3) hK hR hi h hg (by omega) (by omega) kk)
        exact rn_ite (fun _ => m_x64 (D := 1) hK hR hi h hg (by omega) (by omega) kk) (fun _ => m_x64 (D := 2) hK hR hi h hg (by omega) (by omega) kk)
theorem m_text (hNf : 2100 ≤ N) (hK : KS sh z) (h : RI d z R K u) (hR : WF R) : Rn (f_X12_text N sh (z + 242) d) (RR z R K u d) := by
  have n4 := hR.1.2.2.2.2
  obtain ⟨r1, r2, r3, r4, r5⟩ := h
  unfold f_X12_text
  refine rn_t (ks_o hK 242 12 rfl) ?_
  refine r_pI hK (i := 242) (c := 12) rfl ?_
  have o : ∀ a, a ≠ z + 242 → (wI d (z + 242) 8 0).1 a = d.1 a := fun a h1 => wI_n h1
  have f : ∀ k, k ≠ 8 → (wI d (z + 242) 8 0).1 (z + 242) k = d.1 (z + 242) k := fun k hk => by rw [wI_s, va_up_n hk]
  have f8 : (wI d (z + 242) 8 0).1 (z + 242) 8 = nI 0 := by rw [wI_s, va_up_s]; rfl
  refine mtx_loop (by omega) hK hR (nn R 4) 0 N 0 1 _ (by omega) (by omega) ⟨MFR.wI (i := 242) (by decide) (by decide), ⟨?_, ?_, ?_, ⟨0, by omega, f8⟩, ?_⟩, f8⟩ (by omega)
  · rw [o _ (by omega)]
    exact r1
  · rw [o _ (by omega)]
    exact r2
  · rw [f 2 (by decide)]
    exact r3
  · rw [f 10 (by decide), o _ (by omega)]
    exact r5
end TXT
