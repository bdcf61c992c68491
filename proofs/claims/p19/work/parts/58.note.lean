/-! a reading is noted: reading(), none() -/
section NO
variable {s : AS} {sh : Sh} {d : Dt} {z : Nat} {ow : Nat → Nat} {R R' K : Nat → Int32} {u : Bool} {y : YL} {c N b : Nat} {q : BL}
def cellv (v m : Int32) : Int64 := if m = 1 then 1099511627776 else if m = 2 then 2199023255552 else v.toInt64
def wrR (R : Nat → Int32) (x : Nat) (v m : Int32) : Nat → Int32 := va_up (va_up R (1426 + x) v) (5426 + x) m
def sp_write (R : Nat → Int32) (g : Nat) (h v m : Int32) : Int32 × Option (Nat → Int32) := if R (1366 + 3 * g + 2) = -1 then (-4, none) else if h < 0 ∨ R (1366 + 3 * g + 2) ≤ h then (-5, none) else (1, some (wrR R (200 * g + h.toNatClampNeg) v m))
theorem wr_out {x j : Nat} {v m : Int32} (h1 : j ≠ 1426 + x) (h2 : j ≠ 5426 + x) : wrR R x v m j = R j := by
  unfold wrR
  rw [va_up_n h2, va_up_n h1]
theorem vC_wr {x k : Nat} {v m : Int32} (hx : x < 4000) (hk : k < 4000) : vC (wrR R x v m) k = if k = x then cellv v m else vC R k := by
  unfold vC cellv wrR
  by_cases e : k = x
  · subst e
    rw [if_pos rfl, va_up_s, va_up_n (by omega), va_up_s]
  · rw [if_neg e, va_up_n (by omega), va_up_n (by omega), va_up_n (by omega), va_up_n (by omega)]
theorem k_setCell {g h : Nat} {w : Int64} {Lc : Nat} {P : Nat → Prop} {W : Nat → Int64} (hb : bck b) (hK : KS sh z) (hN : WN R) (ht : TB sh d z ow (b + 12) 3 (nn R 2) (vG R') q.2.1) (hc : CE sh d z ow b Lc P W) (hL : nn R 2 * 200 ≤ Lc) (hg : g < nn R 2) (hh : h < 200) : Rn (f_X1_setCell N sh (z + b) (nI g) (nI h) w d) (fun d' => ∃ a, d' = wJ d a (200 * g + h) w ∧ d.2.2.2 (z + b) 7 = some a ∧ ow a = 16 * b + 1 ∧ CE sh d' z ow b Lc (fun k => P k ∨ k = 200 * g + h) (fun k => if k = 200 * g + h then w else W k)) := by
  have hts := bck_t hb
  have n2 := hN.2.2.1.2
  obtain ⟨a, z1, z2, z3, z4, z5, z6⟩ := hc
  have e1 : nI g * (200 : Int32) + nI h = nI (200 * g + h) := by
    rw [show (200 : Int32) = nI 200 from rfl, pk_mul, nI_add, Nat.mul_comm g 200]
  unfold f_X1_setCell
  refine rn_t (ks_o hK b 1 (bck_o hb)) ?_
  refine rn_eq (v := nI (200 * g + h)) ?_ ?_
  · refine rn_val ?_
    unfold f_X1_cellAt
    refine rn_t (ks_o hK b 1 (bck_o hb)) ?_
    refine r_gP hK b 1 2 (b + 12) (bck_o hb) (bck_p hb).2.1 ?_
    refine rn_eq (tb_has hK hts.2.1 ht) ?_
    refine rn_f (fun q => absurd (ite01.mp q) (fun q => q.elim (nI_pos (by omega)) (nI_ge hg (by omega)))) ?_
    refine rn_f (nI_pos (by omega)) ?_
    refine rn_f (nI_ge (b := 200) hh (by decide)) ?_
    unfold f_X1_cellAt_27
    refine rn_f (by decide) ?_
    unfold f_X1_cellAt_43
    refine r_gQ hK a z1 (bck_o hb) ?_
    refine rn_eq (q_len ⟨z3, z4⟩ (by decide)) ?_
    rw [e1]
    refine rn_f (nI_ge (by omega) (by omega)) ?_
    exact rn_some rfl
  · refine rn_f (nI_pos (by omega)) ?_
    refine r_gQ hK a z1 (bck_o hb) ?_
    refine rn_eq (q_sJ ⟨z3, z4⟩ (200 * g + h) rfl (by omega) (by omega)) ?_
    refine rn_some ⟨a, rfl, z1, z2, a, z1, z2, z3, z4, z5, fun k hk => ?_⟩
    show k < Lc ∧ up2 d.2.1 a (200 * g + h) w a k = (if k = 200 * g + h then w else W k)
    rw [up2_s]
    by_cases e : k = 200 * g + h
    · rw [if_pos e, e, va_up_s]
      exact ⟨by omega, rfl⟩
    · rw [if_neg e, va_up_n e]
      exact z6 k (hk.resolve_right e)
theorem k_note {g : Nat} {h v m : Int32} (hNf : 30 ≤ N) (hC : CI s z ow R K u y c) (hR : WF R) (hKF : WF K) (hg : g < nn R 2) : Rn (f_X11_note N z (nI g) h (cellv v m) s) (KO z R K u c (sp_write R g h v m) s) := by
  have hK := hC.1
  have n2 := hR.1.2.2.1.2
  have ht : tck 15 3 = true := by decide
  have hB : BK s.1 s.2 z ow 3 R y.1 := hC.2.2.1
  obtain ⟨hh, hh2⟩ := hR.2.1 g hg
  have why : f_X1_whyUnread N s.1 (z + 3) (nI g) h s.2 = some (if R (1366 + 3 * g + 2) = -1 then -4 else if h < 0 ∨ R (1366 + 3 * g + 2) ≤ h then -5 else 0) := by
    refine rn_val ?_
    unfold f_X1_whyUnread
    refine rn_t (ks_o hK 3 1 rfl) ?_
    refine rn_eq (k_isMissing (b := 3) (Or.inl rfl) hK hB.bt.1 hg) ?_
    by_cases hm : R (1366 + 3 * g + 2) = -1
    · rw [if_pos hm, if_pos hm]
      exact rn_f (by decide) (rn_some rfl)
    · rw [if_neg hm, if_neg hm]
      refine rn_t rfl ?_
      by_cases h0 : h < 0
      · rw [if_pos (Or.inl h0)]
        exact rn_t h0 (rn_some rfl)
      · refine rn_f h0 ?_
        refine r_gP hK 3 1 2 15 rfl (by decide) ?_
        refine rn_eq (tb_get (o := 15) (nc := 3) (c := 2) hK ht hB.2.2.1 rfl hg rfl (by decide)) ?_
        have ev : vG R 2 g = R (1366 + 3 * g + 2) := rfl
        rw [ev]
        by_cases h1 : h < R (1366 + 3 * g + 2)
        · have hx : ¬ (h < 0 ∨ R (1366 + 3 * g + 2) ≤ h) := fun q => q.elim h0 (fun q => Int32.not_lt.mpr q h1)
          rw [if_neg hx]
          exact rn_t h1 (rn_some rfl)
        · have hx : h < 0 ∨ R (1366 + 3 * g + 2) ≤ h := Or.inr (Int32.not_lt.mp h1)
          rw [if_pos hx]
          exact rn_f h1 (rn_some rfl)
  unfold f_X11_note
  refine rn_t (ks_o hK 0 11 rfl) ?_
  refine r_gP hK 0 11 1 3 rfl (by decide) ?_
  refine rn_eq why ?_
  unfold sp_write
  by_cases hm : R (1366 + 3 * g + 2) = -1
  · rw [if_pos hm, if_pos hm]
    refine rn_f (by decide) ?_
    refine rn_bind (k_refuse hK) (fun r hr => rn_some ?_)
    exact ko_lg hC hr rfl
  · rw [if_neg hm, if_neg hm]
    by_cases hi : h < 0 ∨ R (1366 + 3 * g + 2) ≤ h
    · rw [if_pos hi, if_pos hi]
      refine rn_f (by decide) ?_
      refine rn_bind (k_refuse hK) (fun r hr => rn_some ?_)
      exact ko_lg hC hr rfl
    · rw [if_neg hi, if_neg hi]
      refine rn_t rfl ?_
      have hv := hh.resolve_left hm
      rw [hv] at hi
      obtain ⟨t, ht9, rfl, e2⟩ := st_of (by omega) hi
      rw [e2]
      refine rn_bind (ci_change hNf hC hR.1 hR.2.1 hKF.1) (fun s1 hs => ?_)
      obtain ⟨f1, g1, g2, g3, ow1, y1, -, c1⟩ := hs
      have hK1 := c1.1
      have hw1 := c1.2.1
      have hB1 : BK s1.1 s1.2 z ow1 3 R y1.1 := c1.2.2.1
      have hbt := hB1.bt.1
      unfold f_X11_note_27
      refine r_gP hK1 0 11 1 3 rfl (by decide) ?_
      refine rn_bind (k_setCell (b := 3) (Or.inl rfl) hK1 hR.1 hbt.2.2.1 hB1.bt.2 hbt.2.2.2.2.2.1 hg (by omega)) (fun d1 hd => ?_)
      obtain ⟨a, rfl, q1, q2, hce⟩ := hd
      have hfx : FD (IX z ow1 3 3) s1.2 (wJ s1.2 a (200 * g + t) (cellv v m)) := fun j hj => ⟨rfl, up2_n (fun e => hj (by rw [e]; unfold IX; rw [onr_r (o := 3) (k := 0) q2 (by omega)]; omega)), rfl, rfl⟩
      have hbt2 : BT s1.1 (wJ s1.2 a (200 * g + t) (cellv v m)) z ow1 3 (wrR R (200 * g + t) v m) y1.1 := bt_congr hR hbt (fun j hj => wr_out (by omega) (by omega))
      have hce2 : CE s1.1 (wJ s1.2 a (200 * g + t) (cellv v m)) z ow1 3 y1.1.2.2.2.2 (inC (wrR R (200 * g + t) v m)) (vC (wrR R (200 * g + t) v m)) := by
        obtain ⟨a', z1, z2, z3, z4, z5, z6⟩ := hce
        refine ⟨a', z1, z2, z3, z4, z5, fun k hk => ?_⟩
        obtain ⟨g', h', r1, r2, r3⟩ := hk
        have en : ∀ j, j < 1426 → nn (wrR R (200 * g + t) v m) j = nn R j := fun j hj => by unfold nn; rw [wr_out (by omega) (by omega)]
        rw [en 2 (by omega)] at r1
        rw [en _ (by omega)] at r2
        have b2 := (hR.2.1 g' r1).2
        have r := z6 k (Or.inl ⟨g', h', r1, r2, r3⟩)
        refine ⟨r.1, r.2.trans ?_⟩
        rw [vC_wr (by omega) (by omega)]
      have qn := ci_new c1 g1 g2 g3 (hfx.mono (fun a ha => ix_mono ha (by omega) (by omega))) (hbt2.bk hce2) (pb_congr c1.2.2.2.2.2.1 (wr_out (by omega) (by omega)) (fun j hj => wr_out (by omega) (by omega)))
      refine rn_bind (k_answer hK1) (fun r hr => rn_some ?_)
      have q2 := ci_lg qn.1 hr.2
      exact ⟨hr.1, (f1.tr qn.2).tr q2.2, ow1, y1, q2.1⟩
theorem ix_rd (k g h : Nat) : nI k + (200 : Int32) * nI g + nI h = nI (k + 200 * g + h) := by
  rw [show (200 : Int32) = nI 200 from rfl, pk_mul, nI_add, nI_add]
theorem m_writes {g : Nat} {h v m : Int32} (hNf : 15642 < N) (hK : KS sh z) (hI : RI d z R K u) (hR : WF R) (hg : g < nn R 2) : Rn (f_X12_writes N sh (z + 242) (nI g) h v m d) (RO z R K u (sp_write R g h v m) d) := by
  have hN := hR.1
  have n2 := hN.2.2.1.2
  obtain ⟨hh, hh2⟩ := hR.2.1 g hg
  have ha := ks_a hK 243 0 15642 rfl
  have bars : f_X12_bars N sh (z + 242) (nI g) h d = some (if R (1366 + 3 * g + 2) = -1 then -4 else if h < 0 ∨ R (1366 + 3 * g + 2) ≤ h then -5 else 0) := by
    refine rn_val ?_
    unfold f_X12_bars
    refine rn_t (ks_o hK 242 12 rfl) ?_
    refine r_gP hK 242 12 0 243 rfl (by decide) ?_
    refine rn_eq (m_ga hK) ?_
    refine rn_eq (q_aT ha (1366 + 3 * g + 2) (ix_ga g 2) (by omega) (by decide)) ?_
    rw [hI.1 _ (by omega)]
    by_cases hm : R (1366 + 3 * g + 2) = -1
    · rw [if_pos hm]
      exact rn_f (by rw [hm]; decide) (rn_some rfl)
    · have hv := hh.resolve_left hm
      rw [if_neg hm, hv]
      refine rn_t (nI_pos' (by omega)) ?_
      refine rn_eq m_in ?_
      simp only [lt_pred (show nn R (1366 + 3 * g + 2) < 2 ^ 31 by omega)]
      by_cases h1 : h < 0 ∨ nI (nn R (1366 + 3 * g + 2)) ≤ h
      · rw [if_pos h1, if_pos h1]
        exact rn_t rfl (rn_some rfl)
      · rw [if_neg h1, if_neg h1]
        exact rn_f (by decide) (rn_some rfl)
  unfold f_X12_writes
  refine rn_t (ks_o hK 242 12 rfl) ?_
  refine rn_eq bars ?_
  unfold sp_write
  by_cases hm : R (1366 + 3 * g + 2) = -1
  · rw [if_pos hm, if_pos hm]
    refine rn_f (by decide) ?_
    exact ro_refuses hK hI rfl
  · rw [if_neg hm, if_neg hm]
    by_cases hi : h < 0 ∨ R (1366 + 3 * g + 2) ≤ h
    · rw [if_pos hi, if_pos hi]
      refine rn_f (by decide) ?_
      exact ro_refuses hK hI rfl
    · rw [if_neg hi, if_neg hi]
      refine rn_t rfl ?_
      have hv := hh.resolve_left hm
      rw [hv] at hi
      obtain ⟨t, ht9, rfl, e2⟩ := st_of (by omega) hi
      rw [e2]
      refine rn_bind (ri_keeps hI hK hNf) (fun d1 hd => ?_)
      obtain ⟨x1, x2⟩ := hd
      refine r_gP hK 242 12 0 243 rfl (by decide) ?_
      refine rn_eq (q_sI ha (1426 + (200 * g + t)) ((ix_rd 1426 g t).trans (by rw [Nat.add_assoc])) (by omega) (by decide)) ?_
      refine r_gP hK 242 12 0 243 rfl (by decide) ?_
      refine rn_eq (q_sI ha (5426 + (200 * g + t)) ((ix_rd 5426 g t).trans (by rw [Nat.add_assoc])) (by omega) (by decide)) ?_
      have r1 := ri_cellG (j := 1426 + (200 * g + t)) (v := v) x1 hN (by omega) (fun s k _ q1 q2 => by omega)
      have r2 := ri_cellG (j := 5426 + (200 * g + t)) (v := m) r1 (wn_up hN (by omega)) (by omega) (fun s k _ q1 q2 => by omega)
      exact ro_done hK r2 (x2.tr ((MFR.wI (by decide) (by decide)).tr (MFR.wI (by decide) (by decide)))) rfl
def sp_none (R : Nat → Int32) (x h w : Int32) : Int32 × Option (Nat → Int32) := if (x < 0 ∨ nI (nn R 2) ≤ x) ∨ (w < 0 ∨ 1 < w) then (-2, none) else if w = 0 then sp_write R x.toNatClampNeg h (-32768) 1 else sp_write R x.toNatClampNeg h 32767 2
theorem w01 {w : Int32} (h : ¬ (w < 0 ∨ 1 < w)) : w = 0 ∨ w = 1 := by
  have h2 : ¬ (w < 0 ∨ nI 2 ≤ w) := fun q => h (q.elim Or.inl (fun q => Or.inr ((lt_pred (n := 2) (by decide)).mpr q)))
  obtain ⟨k, hk, rfl, -⟩ := st_of (n := 2) (by decide) h2
  rcases (show k = 0 ∨ k = 1 by omega) with rfl | rfl
  · exact Or.inl rfl
  · exact Or.inr rfl
theorem m_none {x h w : Int32} (hNf : 15642 < N) (hK : KS sh z) (hI : RI d z R K u) (hR : WF R) : Rn (f_X12_none N sh (z + 242) x h w d) (RO z R K u (sp_none R x h w) d) := by
  have n2 := hR.1.2.2.1.2
  unfold f_X12_none
  refine rn_t (ks_o hK 242 12 rfl) ?_
  refine rn_eq (ri_isGauge hK hI hR.1) ?_
  by_cases hb : x < 0 ∨ nI (nn R 2) ≤ x
  · rw [show sp_none R x h w = _ from if_pos (Or.inl hb)]
    refine rn_t (ite01.mpr hb) ?_
    exact ro_refuses hK hI rfl
  · refine rn_f (fun q => hb (ite01.mp q)) ?_
    refine rn_eq m_in ?_
    by_cases hw : w < 0 ∨ 1 < w
    · rw [show sp_none R x h w = _ from if_pos (Or.inr hw)]
      refine rn_f (fun q => q (ite01.mpr hw)) ?_
      exact ro_refuses hK hI rfl
    · rw [show sp_none R x h w = _ from if_neg (fun q => q.elim hb hw)]
      refine rn_t (fun q => hw (ite01.mp q)) ?_
      obtain ⟨g, hg, rfl, e2⟩ := st_of (by omega) hb
      rw [e2]
      rcases w01 hw with rfl | rfl
      · rw [if_pos rfl]
        refine rn_f (fun q => q rfl) ?_
        exact rn_bind (m_writes hNf hK hI hR hg) (fun r hr => rn_some hr)
      · rw [if_neg (show ¬ (1 : Int32) = 0 by decide)]
        refine rn_t (by decide) ?_
        exact rn_bind (m_writes hNf hK hI hR hg) (fun r hr => rn_some hr)
theorem k_none {x h w : Int32} (hNf : 30 ≤ N) (hC : CI s z ow R K u y c) (hR : WF R) (hKF : WF K) : Rn (f_X11_none N z x h w s) (KO z R K u c (sp_none R x h w) s) := by
  have hK := hC.1
  have n2 := hR.1.2.2.1.2
  have ht : tck 15 3 = true := by decide
  have hB : BK s.1 s.2 z ow 3 R y.1 := hC.2.2.1
  have bad : ∀ o, o = (-2, none) → Rn (f_X11_none_23 N z s) (KO z R K u c o s) := fun o ho => by
    unfold f_X11_none_23
    refine rn_bind (k_refuse hK) (fun r hr => rn_some ?_)
    exact ko_lg hC hr ho
  unfold f_X11_none
  refine rn_t (ks_o hK 0 11 rfl) ?_
  refine r_gP hK 0 11 1 3 rfl (by decide) ?_
  refine r_gP hK 3 1 2 15 rfl (by decide) ?_
  refine rn_eq (tb_has (o := 15) (nc := 3) hK ht hB.2.2.1) ?_
  by_cases hb : x < 0 ∨ nI (nn R 2) ≤ x
  · refine rn_t (ite01.mpr hb) ?_
    exact bad _ (if_pos (Or.inl hb))
  · refine rn_f (fun q => hb (ite01.mp q)) ?_
    by_cases hw : w < 0 ∨ 1 < w
    · refine rn_ite (fun _ => bad _ (if_pos (Or.inr hw))) (fun h1 => ?_)
      exact rn_f (fun q => Int32.not_lt.mpr q (hw.resolve_left h1)) (bad _ (if_pos (Or.inr hw)))
    · rw [show sp_none R x h w = _ from if_neg (fun q => q.elim hb hw)]
      obtain ⟨g, hg, rfl, e2⟩ := st_of (by omega) hb
      rw [e2]
      rcases w01 hw with rfl | rfl
      · rw [if_pos rfl]
        refine rn_f (by decide) (rn_t (by decide) (rn_f (fun q => q rfl) ?_))
        exact rn_bind (k_note (v := -32768) (m := 1) hNf hC hR hKF hg) (fun r hr => rn_some hr)
      · rw [if_neg (show ¬ (1 : Int32) = 0 by decide)]
        refine rn_f (by decide) (rn_t (by decide) (rn_t (by decide) ?_))
        exact rn_bind (k_note (v := 32767) (m := 2) hNf hC hR hKF hg) (fun r hr => rn_some hr)
def lowm (v : Int32) : Int32 := if v = -32768 then 1 else if v = 32767 then 2 else 0
def sp_reading (R : Nat → Int32) (x h v : Int32) : Int32 × Option (Nat → Int32) := if x < 0 ∨ nI (nn R 2) ≤ x then (-2, none) else if R (1366 + 3 * x.toNatClampNeg + 1) = 0 then sp_write R x.toNatClampNeg h v 0 else sp_write R x.toNatClampNeg h v.toInt16.toInt32 (lowm v.toInt16.toInt32)
theorem m_reading {x h v : Int32} (hNf : 15642 < N) (hK : KS sh z) (hI : RI d z R K u) (hR : WF R) : Rn (f_X12_reading N sh (z + 242) x h v d) (RO z R K u (sp_reading R x h v) d) := by
  have n2 := hR.1.2.2.1.2
  unfold f_X12_reading
  refine rn_t (ks_o hK 242 12 rfl) ?_
  refine rn_eq (ri_isGauge hK hI hR.1) ?_
  by_cases hb : x < 0 ∨ nI (nn R 2) ≤ x
  · rw [show sp_reading R x h v = _ from if_pos hb]
    refine rn_f (fun q => q (ite01.mpr hb)) ?_
    exact ro_refuses hK hI rfl
  · rw [show sp_reading R x h v = _ from if_neg hb]
    refine rn_t (fun q => hb (ite01.mp q)) ?_
    obtain ⟨g, hg, rfl, e2⟩ := st_of (by omega) hb
    rw [e2]
    refine r_gP hK 242 12 0 243 rfl (by decide) ?_
    refine rn_eq (m_ga hK) ?_
    refine rn_eq (q_aT (ks_a hK 243 0 15642 rfl) (1366 + 3 * g + 1) (ix_ga g 1) (by omega) (by decide)) ?_
    rw [hI.1 _ (by omega)]
    by_cases h0 : R (1366 + 3 * g + 1) = 0
    · rw [if_pos h0]
      refine rn_f (fun q => q h0) ?_
      exact rn_bind (m_writes hNf hK hI hR hg) (fun r hr => rn_some hr)
    · rw [if_neg h0]
      refine rn_t h0 ?_
      generalize v.toInt16.toInt32 = lw
      unfold lowm
      by_cases h1 : lw = -32768
      · rw [if_pos h1]
        refine rn_f (fun q => q h1) ?_
        exact rn_bind (m_writes hNf hK hI hR hg) (fun r hr => rn_some hr)
      · rw [if_neg h1]
        refine rn_t h1 ?_
        by_cases h2 : lw = 32767
        · rw [if_pos h2]
          refine rn_f (fun q => q h2) ?_
          exact rn_bind (m_writes hNf hK hI hR hg) (fun r hr => rn_some hr)
        · rw [if_neg h2]
          refine rn_t h2 ?_
          exact rn_bind (m_writes hNf hK hI hR hg) (fun r hr => rn_some hr)
theorem k_reading {x h v : Int32} (hNf : 30 ≤ N) (hC : CI s z ow R K u y c) (hR : WF R) (hKF : WF K) : Rn (f_X11_reading N z x h v s) (KO z R K u c (sp_reading R x h v) s) := by
  have hK := hC.1
  have n2 := hR.1.2.2.1.2
  have ht : tck 15 3 = true := by decide
  have hB : BK s.1 s.2 z ow 3 R y.1 := hC.2.2.1
  unfold f_X11_reading
  refine rn_t (ks_o hK 0 11 rfl) ?_
  refine r_gP hK 0 11 1 3 rfl (by decide) ?_
  refine r_gP hK 3 1 2 15 rfl (by decide) ?_
  refine rn_eq (tb_has (o := 15) (nc := 3) hK ht hB.2.2.1) ?_
  by_cases hb : x < 0 ∨ nI (nn R 2) ≤ x
  · rw [show sp_reading R x h v = _ from if_pos hb]
    refine rn_f (fun q => q (ite01.mpr hb)) ?_
    refine rn_bind (k_refuse hK) (fun r hr => rn_some ?_)
    exact ko_lg hC hr rfl
  · rw [show sp_reading R x h v = _ from if_neg hb]
    refine rn_t (fun q => hb (ite01.mp q)) ?_
    obtain ⟨g, hg, rfl, e2⟩ := st_of (by omega) hb
    rw [e2]
    have hsh := ((hR.2.2.2.1.1 g hg).2)
    have short : f_X1_isOfShorts N s.1 (z + 3) (nI g) s.2 = some (R (1366 + 3 * g + 1)) := by
      refine rn_val ?_
      unfold f_X1_isOfShorts
      refine rn_t (ks_o hK 3 1 rfl) ?_
      refine r_gP hK 3 1 2 15 rfl (by decide) ?_
      refine rn_eq (tb_get (o := 15) (nc := 3) (c := 1) hK ht hB.2.2.1 rfl hg rfl (by decide)) ?_
      have ev : vG R 1 g = R (1366 + 3 * g + 1) := rfl
      rw [ev]
      rcases hsh with e | e
      · rw [e]
        exact rn_t (by decide) ⟨0, rfl, rfl⟩
      · rw [e]
        exact rn_f (fun q => q rfl) ⟨1, rfl, rfl⟩
    refine r_gP hK 0 11 1 3 rfl (by decide) ?_
    refine rn_eq short ?_
    by_cases h0 : R (1366 + 3 * g + 1) = 0
    · refine rn_t h0 ?_
      rw [if_pos h0]
      exact rn_bind (k_note (v := v) (m := 0) hNf hC hR hKF hg) (fun r hr => rn_some hr)
    · refine rn_f h0 ?_
      rw [if_neg h0]
      generalize v.toInt16.toInt32 = lw
      refine rn_eq (v := cellv lw (lowm lw)) ?_ ?_
      · unfold f_X1_cellOfShort cellv lowm
        by_cases h1 : lw = -32768
        · rw [if_neg (fun q => q h1), if_pos h1, if_pos rfl]
        · rw [if_pos h1, if_neg h1]
          by_cases h2 : lw = 32767
          · rw [if_neg (fun q => q h2), if_pos h2, if_neg (show ¬ (2 : Int32) = 1 by decide), if_pos rfl]
            rfl
          · rw [if_pos h2, if_neg h2, if_neg (show ¬ (0 : Int32) = 1 by decide), if_neg (show ¬ (0 : Int32) = 2 by decide)]
            rfl
      · exact rn_bind (k_note (v := lw) (m := lowm lw) hNf hC hR hKF hg) (fun r hr => rn_some hr)
end NO
