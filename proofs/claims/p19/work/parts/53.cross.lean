/-! crossings(): class and reference -/
def sp_crossings (R : Nat → Int32) (n : Int32) : Int32 × Option (Nat → Int32) := if n < 1 ∨ 20 < n then (-2, none) else if R 0 + n ≤ 60 then (R 0 + n, some (va_up R 0 (R 0 + n))) else (-3, none)
/-- what a call of the class must come to: o is the document's outcome -/
def KO (z : Nat) (R K : Nat → Int32) (u : Bool) (c : Nat) (o : Int32 × Option (Nat → Int32)) (s : AS) (r : Int32 × AS) : Prop := r.1 = o.1 ∧ RFR z s r.2 ∧ ∃ ow' y', CI r.2 z ow' (o.2.getD R) (if o.2.isSome then R else K) (o.2.isSome || u) y' c
/-- the reference holds R, and keeps K -/
def AG (R0 R : Nat → Int32) : Prop := ∀ k, k < 15642 → R0 k = R k
def RI (d : Dt) (z : Nat) (R K : Nat → Int32) (u : Bool) : Prop := AG (d.1 (z + 243)) R ∧ (u = true → AG (d.1 (z + 244)) K) ∧ d.1 (z + 242) 2 = (if u then 1 else 0) ∧ (∃ g, g ≤ 8000 ∧ d.1 (z + 242) 8 = nI g) ∧ (d.1 (z + 242) 10 = 0 ∨ (d.1 (z + 242) 10 = 1 ∧ ∀ a b, a < nn R 0 → b < nn R 0 → dOK R 268435456 a b (d.1 (z + 247) (60 * a + b))))
/-- the reference touches its own cells alone -/
def MFR (z : Nat) (d d' : Dt) : Prop := d'.2.1 = d.2.1 ∧ d'.2.2.2 = d.2.2.2 ∧ ∀ a, a < z + 242 ∨ z + 264 ≤ a → d'.1 a = d.1 a ∧ d'.2.2.1 a = d.2.2.1 a
def RO (z : Nat) (R K : Nat → Int32) (u : Bool) (o : Int32 × Option (Nat → Int32)) (d : Dt) (r : Int32 × Dt) : Prop := r.1 = o.1 ∧ MFR z d r.2 ∧ RI r.2 z (o.2.getD R) (if o.2.isSome then R else K) (o.2.isSome || u)
section CR
variable {s : AS} {sh : Sh} {d : Dt} {z : Nat} {ow : Nat → Nat} {R K : Nat → Int32} {u : Bool} {y : YL} {c N : Nat}
theorem MFR.rf : MFR z d d := ⟨rfl, rfl, fun _ _ => ⟨rfl, rfl⟩⟩
theorem MFR.tr {d1 d2 : Dt} (h1 : MFR z d d1) (h2 : MFR z d1 d2) : MFR z d d2 := ⟨h2.1.trans h1.1, h2.2.1.trans h1.2.1, fun a q => ⟨(h2.2.2 a q).1.trans (h1.2.2 a q).1, (h2.2.2 a q).2.trans (h1.2.2 a q).2⟩⟩
theorem MFR.wI {i k : Nat} {v : Int32} (h : 242 ≤ i) (h2 : i < 264) : MFR z d (wI d (z + i) k v) := ⟨rfl, rfl, fun a q => ⟨wI_n (by omega), rfl⟩⟩
theorem MFR.row {i : Nat} {f : Nat → Int32} (h : 242 ≤ i) (h2 : i < 264) : MFR z d (va_up d.1 (z + i) f, d.2) := ⟨rfl, rfl, fun a q => ⟨va_up_n (by omega), rfl⟩⟩
theorem RG.mfr {d' : Dt} (h : RG z d d') : MFR z d d' := ⟨by rw [h.1], by rw [h.1], fun a q => ⟨h.2.1 a (by omega) (by omega), by rw [h.1]⟩⟩
theorem ri_rg {d' : Dt} (h : RI d z R K u) (hd : RG z d d') : RI d' z R K u := by
  obtain ⟨h1, h2, h3, ⟨g, h4, h5⟩, h6⟩ := h
  refine ⟨?_, ?_, ?_, ⟨g, h4, ?_⟩, ?_⟩
  · rw [hd.2.1 (z + 243) (by omega) (by omega)]
    exact h1
  · rw [hd.2.1 (z + 244) (by omega) (by omega)]
    exact h2
  · rw [hd.2.2 2 (by omega) (by omega) (by omega)]
    exact h3
  · rw [hd.2.2 8 (by omega) (by omega) (by omega)]
    exact h5
  · rw [hd.2.2 10 (by omega) (by omega) (by omega), hd.2.1 (z + 247) (by omega) (by omega)]
    exact h6
/-- behind keeps(), with the ways forgotten or not -/
theorem ri_keeps (h : RI d z R K u) (hK : KS sh z) (hN : 15642 < N) : Rn (f_X12_keeps N sh (z + 242) d) (fun d' => RI d' z R R true ∧ MFR z d d') := by
  obtain ⟨h1, h2, h3, ⟨g, h4, h5⟩, h6⟩ := h
  refine ⟨_, m_keeps hK hN rfl, ⟨?_, ?_, ?_, ⟨g, h4, ?_⟩, ?_⟩, (MFR.row (by decide) (by decide)).tr (MFR.wI (by decide) (by decide))⟩
  · rw [wI_n (by omega)]
    show AG (va_up d.1 (z + 244) _ (z + 243)) R
    rw [va_up_n (by omega)]
    exact h1
  · intro _ k hk
    rw [wI_n (by omega)]
    show va_up d.1 (z + 244) _ (z + 244) k = R k
    rw [va_up_s, if_pos hk]
    exact h1 k hk
  · rw [wI_s, va_up_s]
    rfl
  · rw [wI_s, va_up_n (by decide)]
    show va_up d.1 (z + 244) _ (z + 242) 8 = nI g
    rw [va_up_n (by omega)]
    exact h5
  · rw [wI_s, va_up_n (by decide), wI_n (by omega)]
    show va_up d.1 (z + 244) _ (z + 242) 10 = 0 ∨ (va_up d.1 (z + 244) _ (z + 242) 10 = 1 ∧ ∀ a b, a < nn R 0 → b < nn R 0 → dOK R 268435456 a b (va_up d.1 (z + 244) _ (z + 247) (60 * a + b)))
    rw [va_up_n (by omega), va_up_n (by omega)]
    exact h6
/-- the ways are forgotten: any R may stand there -/
theorem ri_put {R' : Nat → Int32} {d' : Dt} (h : RI d z R K u) (e0 : d'.1 (z + 242) = va_up (d.1 (z + 242)) 10 0) (e1 : AG (d'.1 (z + 243)) R') (e2 : d'.1 (z + 244) = d.1 (z + 244)) : RI d' z R' K u := by
  obtain ⟨h1, h2, h3, ⟨g, h4, h5⟩, h6⟩ := h
  refine ⟨e1, by rw [e2]; exact h2, ?_, ⟨g, h4, ?_⟩, Or.inl ?_⟩
  · rw [e0, va_up_n (by decide)]
    exact h3
  · rw [e0, va_up_n (by decide)]
    exact h5
  · rw [e0, va_up_s]
theorem in_1_20 {n : Int32} : (if n < 1 ∨ 20 < n then (0 : Int32) else 1) = 0 ↔ (n < 1 ∨ 20 < n) := by
  by_cases h : n < 1 ∨ 20 < n
  · rw [if_pos h]
    exact ⟨fun _ => h, fun _ => rfl⟩
  · rw [if_neg h]
    exact ⟨fun q => absurd q (by decide), fun q => absurd q h⟩
theorem m_crossings {n : Int32} (hN : 15642 < N) (hK : KS sh z) (h : RI d z R K u) : Rn (f_X12_crossings N sh (z + 242) n d) (RO z R K u (sp_crossings R n) d) := by
  have e0 : d.1 (z + 243) 0 = R 0 := h.1 0 (by decide)
  unfold f_X12_crossings
  refine rn_t (ks_o hK 242 12 rfl) ?_
  refine rn_eq m_in ?_
  unfold sp_crossings
  refine rn_ite (fun h1 => ?_) (fun h1 => ?_)
  · have h1 : ¬ (n < 1 ∨ 20 < n) := fun q => h1 (in_1_20.mpr q)
    rw [if_neg h1]
    refine rd hK (R := d.1 (z + 243)) rfl 0 rfl (by decide) ?_
    rw [e0]
    refine rn_ite (fun h2 => ?_) (fun h2 => ?_)
    · rw [if_pos h2]
      refine rn_bind (ri_keeps h hK hN) (fun d1 hd => ?_)
      obtain ⟨x1, x2⟩ := hd
      refine r_pI hK (i := 242) (c := 12) rfl ?_
      refine r_gP hK 242 12 0 243 rfl (by decide) ?_
      have ha := ks_a hK 243 0 15642 rfl
      refine rn_eq (q_aT ha 0 rfl (by decide) (by decide)) ?_
      refine rn_eq (q_sI ha 0 rfl (by decide) (by decide)) ?_
      refine rd hK (R := _) rfl 0 rfl (by decide) ?_
      refine rn_eq (m_says hK) ?_
      have e1 : d1.1 (z + 243) 0 = R 0 := x1.1 0 (by decide)
      have v1 : (wI d1 (z + 242) 10 0).1 (z + 243) 0 = R 0 := by
        rw [wI_n (by omega)]
        exact e1
      have v2 : (wI (wI d1 (z + 242) 10 0) (z + 243) 0 ((wI d1 (z + 242) 10 0).1 (z + 243) 0 + n)).1 (z + 243) 0 = R 0 + n := by
        rw [wI_s, va_up_s, v1]
      refine rn_some ⟨v2, ?_, ?_⟩
      · exact x2.tr ((MFR.wI (by decide) (by decide)).tr ((MFR.wI (by decide) (by decide)).tr (MFR.wI (by decide) (by decide))))
      · refine ri_rg ?_ (RG.w242 (Or.inl rfl))
        refine ri_put (R' := va_up R 0 (R 0 + n)) x1 ?_ (fun k hk => ?_) ?_
        · rw [wI_n (by omega), wI_s]
        · rw [wI_s, v1]
          unfold va_up
          by_cases ek : k = 0
          · rw [if_pos ek, if_pos ek]
          · rw [if_neg ek, if_neg ek, wI_n (by omega)]
            exact x1.1 k hk
        · rw [wI_n (by omega), wI_n (by omega)]
    · rw [if_neg h2]
      refine rn_bind (m_refuses hK) (fun r hr => ?_)
      exact rn_some ⟨hr.1, hr.2.mfr, ri_rg h hr.2⟩
  · have h1 : n < 1 ∨ 20 < n := in_1_20.mp (Decidable.of_not_not h1)
    rw [if_pos h1]
    refine rn_bind (m_refuses hK) (fun r hr => ?_)
    exact rn_some ⟨hr.1, hr.2.mfr, ri_rg h hr.2⟩
/-- another number of crossings -/
theorem bk_cross {b : Nat} {q : BL} {v : Int32} (hb : bck b) (hK : KS s.1 z) (hw : OWS ow z) (h : BK s.1 s.2 z ow b R q) : BK s.1 (wI s.2 (z + b) 0 v) z ow b (va_up R 0 v) q := by
  obtain ⟨h0, h1, h2, h3, h4, h5, h6, h7⟩ := h
  have hwb := bck_w hb hw
  have ht := bck_t hb
  have he : ES (IX z ow b b) s ow (s.1, wI s.2 (z + b) 0 v) ow := FD.es (sh := s.1) (d := s.2) (fd_ix hwb.2 hwb.1)
  have n1 : ∀ k, k ≠ 0 → va_up R 0 v k = R k := fun k hk => va_up_n hk
  have nv : ∀ k, k ≠ 0 → nn (va_up R 0 v) k = nn R k := fun k hk => by unfold nn; rw [n1 k hk]
  have eS : vS (va_up R 0 v) = vS R := by
    funext c i
    exact n1 _ (by omega)
  have eG : vG (va_up R 0 v) = vG R := by
    funext c i
    exact n1 _ (by omega)
  have eP : vP (va_up R 0 v) = vP R := by
    funext c i
    unfold vP
    simp only [n1 _ (show 9426 + 13 * i + 6 ≠ 0 by omega), n1 _ (show 9426 + 13 * i + 7 ≠ 0 by omega), n1 _ (show 9426 + 13 * i + 8 ≠ 0 by omega), n1 _ (show 9426 + 13 * i + 9 ≠ 0 by omega), n1 _ (show 9426 + 13 * i + 10 ≠ 0 by omega), n1 _ (show 9426 + 13 * i + 1 ≠ 0 by omega), n1 _ (show 9426 + 13 * i + 2 ≠ 0 by omega), n1 _ (show 9426 + 13 * i ≠ 0 by omega), n1 _ (show 9426 + 13 * i + 11 ≠ 0 by omega), n1 _ (show 9426 + 13 * i + 12 ≠ 0 by omega)]
  have eD : vD (va_up R 0 v) = vD R := by
    funext c i
    unfold vD
    rw [nv (9642 + 3 * i) (by omega), n1 (9642 + 3 * i) (by omega), n1 (9642 + 3 * i + 1) (by omega), n1 (9642 + 3 * i + 2) (by omega), n1 (16 + 9 * nn R (9642 + 3 * i) + 7) (by omega), n1 (16 + 9 * nn R (9642 + 3 * i) + 8) (by omega)]
  have eC : vC (va_up R 0 v) = vC R := by
    funext k
    unfold vC
    rw [n1 (5426 + k) (by omega), n1 (1426 + k) (by omega)]
  have eI : inC (va_up R 0 v) = inC R := by
    funext k
    unfold inC
    rw [nv 2 (by decide)]
    congr 1
  unfold BK
  rw [eS, eG, eP, eD, eC, eI, nv 1 (by decide), nv 2 (by decide), nv 3 (by decide), nv 4 (by decide)]
  refine ⟨?_, tb_ix h1 hK hw ht.1 he (by omega), tb_ix h2 hK hw ht.2.1 he (by omega), tb_ix h3 hK hw ht.2.2.1 he (by omega), tb_ix h4 hK hw ht.2.2.2 he (by omega), h5, h6, h7⟩
  rw [wI_s, va_up_s, va_up_s]
theorem nn_cross {v : Int32} {k : Nat} (hk : k ≠ 0) : nn (va_up R 0 v) k = nn R k := by
  unfold nn
  rw [va_up_n hk]
theorem pb_cross {v : Int32} (h : PB s.1 s.2 z ow R) : PB s.1 s.2 z ow (va_up R 0 v) := fun p hp => by
  rw [nn_cross (by decide)] at hp
  obtain ⟨a, h1, h2⟩ := h p hp
  refine ⟨a, h1, ?_⟩
  rw [nn_cross (k := 9426 + 13 * p) (by omega), nn_cross (k := 9426 + 13 * p + 3) (by omega), nn_cross (k := 9426 + 13 * p + 4) (by omega), nn_cross (k := 9426 + 13 * nn R (9426 + 13 * p + 3)) (by omega), nn_cross (k := 9426 + 13 * nn R (9426 + 13 * p + 4)) (by omega)]
  exact h2
/-- a call that is refused or only answers -/
theorem ko_lg {v : Int32} {r : Int32 × Dt} {o : Int32 × Option (Nat → Int32)} (h : CI s z ow R K u y c) (hr : r.1 = v ∧ LG z s.2 r.2) (ho : o = (v, none)) : KO z R K u c o s (r.1, (s.1, r.2)) := by
  subst ho
  have q := ci_lg h hr.2
  exact ⟨hr.1, q.2, ow, y, q.1⟩
theorem k_crossings {n : Int32} (hNf : 30 ≤ N) (h : CI s z ow R K u y c) (hR : WF R) (hKF : WF K) : Rn (f_X11_crossings N z n s) (KO z R K u c (sp_crossings R n) s) := by
  have hK := h.1
  unfold f_X11_crossings
  refine rn_t (ks_o hK 0 11 rfl) ?_
  unfold sp_crossings
  refine rn_ite (fun h1 => ?_) (fun h1 => ?_)
  · rw [if_pos (Or.inl h1)]
    unfold f_X11_crossings_11
    refine rn_bind (k_refuse hK) (fun r hr => rn_some ?_)
    exact ko_lg h hr rfl
  · refine rn_ite (fun h2 => ?_) (fun h2 => ?_)
    · have h3 : ¬ (n < 1 ∨ 20 < n) := fun q => q.elim h1 (fun q => Int32.not_le.mpr q h2)
      rw [if_neg h3]
      refine r_gP hK 0 11 1 3 rfl (by decide) ?_
      refine r_gI hK (i := 3) (c := 1) rfl ?_
      rw [h.2.2.1.1]
      refine rn_ite (fun h4 => ?_) (fun h4 => ?_)
      · rw [if_pos h4]
        refine rn_bind (ci_change hNf h hR.1 hR.2.1 hKF.1) (fun s1 hs => ?_)
        obtain ⟨f1, g1, g2, g3, ow1, y1, -, c1⟩ := hs
        have hK1 := c1.1
        unfold f_X11_crossings_43
        refine r_gP hK1 0 11 1 3 rfl (by decide) ?_
        refine r_gI hK1 (i := 3) (c := 1) rfl ?_
        refine r_pI hK1 (i := 3) (c := 1) rfl ?_
        refine r_gP hK1 0 11 1 3 rfl (by decide) ?_
        refine r_gI hK1 (i := 3) (c := 1) rfl ?_
        have e0 : s1.2.1 (z + 3) 0 = R 0 := c1.2.2.1.1
        rw [e0]
        refine rn_bind (k_answer hK1) (fun r hr => rn_some ?_)
        obtain ⟨hK9, hw1, b1, b2, b3, b4, b5, b6, b7, b8, b9, b10, b11⟩ := c1
        have o3 := hw1 3 (by decide) (by decide)
        have he : ES (IX z ow1 3 3) s1 ow1 (s1.1, wI s1.2 (z + 3) 0 (R 0 + n)) ow1 := FD.es (sh := s1.1) (d := s1.2) (fd_ix (by decide) o3)
        have c2 : CI (s1.1, wI s1.2 (z + 3) 0 (R 0 + n)) z ow1 (va_up R 0 (R 0 + n)) R true y1 c := by
          have r0 := es_row hK1 hw1 he (i := 0) (by decide) (by omega)
          have r77 := es_row hK1 hw1 he (i := 77) (by decide) (by omega)
          have r201 := es_row hK1 hw1 he (i := 201) (by decide) (by omega)
          exact ⟨hK1, hw1, bk_cross (Or.inl rfl) hK1 hw1 b1, bk_ix b2 (Or.inr rfl) hK1 hw1 he (by omega), cs_ix b3 hK1 hw1 he (by omega), pb_cross (pb_ix b4 hK1 hw1 he (by omega) (by omega)), pb_ix b5 hK1 hw1 he (by omega) (by omega), Or.inl (by rw [r77.1]; exact g1), Or.inl (by rw [r201.1]; exact g2), Or.inl (by rw [r201.1]; exact g3), by rw [r0.1]; exact b9, b10, b11.1, tln_0 (by rw [r201.1]; exact g3)⟩
        have q := ci_lg c2 hr.2
        have f2 := RFR.ix hK1 hw1 he (by omega)
        refine ⟨?_, (f1.tr f2).tr q.2, ow1, y1, q.1⟩
        rw [hr.1, wI_s, va_up_s]
      · rw [if_neg h4]
        refine rn_bind (k_refuse hK) (fun r hr => rn_some ?_)
        exact ko_lg h hr rfl
    · rw [if_pos (Or.inr (Int32.not_le.mp h2))]
      unfold f_X11_crossings_11
      refine rn_bind (k_refuse hK) (fun r hr => rn_some ?_)
      exact ko_lg h hr rfl
end CR
