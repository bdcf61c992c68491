/-! 58.note.lean.txt -/
/-! a reading is noted: reading(), none() -/
section NO
variable {s : AS} {sh : Sh} {d : Dt} {z : Nat} {ow : Nat → Nat} {R R' K : Nat → Int32} {u : Bool} {y : YL} {c N b : Nat} {q : BL}
def cellv (v m : Int32) : Int64 := if m = 1 then 1099511627776 else if m = 2 then 2199023255552 else v.toInt64
def wrR (R : Nat → Int32) (x : Nat) (v m : Int32) : Nat → Int32 := va_up (va_up R (1426 + x) v) (5426 + x) m
def sp_write (R : Nat → Int32) (g : Nat) (h v m : Int32) : Int32 × Option (Nat → Int32) := if R (1366 + 3 * g + 2) = -1 then (-4, none) else if h < 0 ∨ R (1366 + 3 * g + 2) ≤ h then (-5, none) else (1, some (wrR R (200 * g + h.toNatClampNeg) v m))
theorem wr_out {x j : Nat} {v m : Int32} (h1 : j ≠ 1426 + x) (h2 : j ≠ 5426 + x) : wrR R x v m j = R j := by
  unfold wrR
  rw [va_up_n h2, va_up_n h1]
theorem vC_wr {x k : Nat} {v m : Int32} (hx : x < 4000) (hk : k < 4000) : vC (wrR R x v m) k = if k = x then cellv v m else vC R k := by
  unfold vC cellv wrR
  by_cases e : k = x
  · subst e
    rw [if_pos rfl, va_up_s, va_up_n (by omega), va_up_s]
  · rw [if_neg e, va_up_n (by omega), va_up_n (by omega), va_up_n (by omega), va_up_n (by omega)]
theorem k_setCell {g h : Nat} {w : Int64} {Lc : Nat} {P : Nat → Prop} {W : Nat → Int64} (hb : bck b) (hK : KS sh z) (hN : WN R) (ht : TB sh d z ow (b + 12) 3 (nn R 2) (vG R') q.2.1) (hc : CE sh d z ow b Lc P W) (hL : nn R 2 * 200 ≤ Lc) (hg : g < nn R 2) (hh : h < 200) : Rn (f_X1_setCell N sh (z + b) (nI g) (nI h) w d) (fun d' => ∃ a, d' = wJ d a (200 * g + h) w ∧ d.2.2.2 (z + b) 7 = some a ∧ ow a = 16 * b + 1 ∧ CE sh d' z ow b Lc (fun k => P k ∨ k = 200 * g + h) (fun k => if k = 200 * g + h then w else W k)) := by
  have hts := bck_t hb
  have n2 := hN.2.2.1.2
  obtain ⟨a, z1, z2, z3, z4, z5, z6⟩ := hc
  have e1 : nI g * (200 : Int32) + nI h = nI (200 * g + h) := by
    rw [show (200 : Int32) = nI 200 from rfl, pk_mul, nI_add, Nat.mul_comm g 200]
  unfold f_X1_setCell
  refine rn_t (ks_o hK b 1 (bck_o hb)) ?_
  refine rn_eq (v := nI (200 * g + h)) ?_ ?_
  · refine rn_val ?_
    unfold f_X1_cellAt
    refine rn_t (ks_o hK b 1 (bck_o hb)) ?_
    refine r_gP hK b 1 2 (b + 12) (bck_o hb) (bck_p hb).2.1 ?_
    refine rn_eq (tb_has hK hts.2.1 ht) ?_
    refine rn_f (fun q => absurd (ite01.mp q) (fun q => q.elim (nI_pos (by omega)) (nI_ge hg (by omega)))) ?_
    refine rn_f (nI_pos (by omega)) ?_
    refine rn_f (nI_ge (b := 200) hh (by decide)) ?_
    unfold f_X1_cellAt_27
    refine rn_f (by decide) ?_
    unfold f_X1_cellAt_43
    refine r_gQ hK a z1 (bck_o hb) ?_
    refine rn_eq (q_len ⟨z3, z4⟩ (by decide)) ?_
    rw [e1]
    refine rn_f (nI_ge (by omega) (by omega)) ?_
    exact rn_some rfl
  · refine rn_f (nI_pos (by omega)) ?_
    refine r_gQ hK a z1 (bck_o hb) ?_
    refine rn_eq (q_sJ ⟨z3, z4⟩ (200 * g + h) rfl (by omega) (by omega)) ?_
    refine rn_some ⟨a, rfl, z1, z2, a, z1, z2, z3, z4, z5, fun k hk => ?_⟩
    show k < Lc ∧ up2 d.2.1 a (200 * g + h) w a k = (if k = 200 * g + h then w else W k)
    rw [up2_s]
    by_cases e : k = 200 * g + h
    · rw [if_pos e, e, va_up_s]
      exact ⟨by omega, rfl⟩
    · rw [if_neg e, va_up_n e]
      exact z6 k (hk.resolve_right e)
theorem k_note {g : Nat} {h v m : Int32} (hNf : 30 ≤ N) (hC : CI s z ow R K u y c) (hR : WF R) (hKF : WF K) (hg : g < nn R 2) : Rn (f_X11_note N z (nI g) h (cellv v m) s) (KO z R K u c (sp_write R g h v m) s) := by
  have hK := hC.1
  have n2 := hR.1.2.2.1.2
  have ht : tck 15 3 = true := by decide
  have hB : BK s.1 s.2 z ow 3 R y.1 := hC.2.2.1
  obtain ⟨hh, hh2⟩ := hR.2.1 g hg
  have why : f_X1_whyUnread N s.1 (z + 3) (nI g) h s.2 = some (if R (1366 + 3 * g + 2) = -1 then -4 else if h < 0 ∨ R (1366 + 3 * g + 2) ≤ h then -5 else 0) := by
    refine rn_val ?_
    unfold f_X1_whyUnread
    refine rn_t (ks_o hK 3 1 rfl) ?_
    refine rn_eq (k_isMissing (b := 3) (Or.inl rfl) hK hB.bt.1 hg) ?_
    by_cases hm : R (1366 + 3 * g + 2) = -1
    · rw [if_pos hm, if_pos hm]
      exact rn_f (by decide) (rn_some rfl)
    · rw [if_neg hm, if_neg hm]
      refine rn_t rfl ?_
      by_cases h0 : h < 0
      · rw [if_pos (Or.inl h0)]
        exact rn_t h0 (rn_some rfl)
      · refine rn_f h0 ?_
        refine r_gP hK 3 1 2 15 rfl (by decide) ?_
        refine rn_eq (tb_get (o := 15) (nc := 3) (c := 2) hK ht hB.2.2.1 rfl hg rfl (by decide)) ?_
        have ev : vG R 2 g = R (1366 + 3 * g + 2) := rfl
        rw [ev]
        by_cases h1 : h < R (1366 + 3 * g + 2)
        · have hx : ¬ (h < 0 ∨ R (1366 + 3 * g + 2) ≤ h) := fun q => q.elim h0 (fun q => Int32.not_lt.mpr q h1)
          rw [if_neg hx]
          exact rn_t h1 (rn_some rfl)
        · have hx : h < 0 ∨ R (1366 + 3 * g + 2) ≤ h := Or.inr (Int32.not_lt.mp h1)
          rw [if_pos hx]
          exact rn_f h1 (rn_some rfl)
  unfold f_X11_note
  refine rn_t (ks_o hK 0 11 rfl) ?_
  refine r_gP hK 0 11 1 3 rfl (by decide) ?_
  refine rn_eq why ?_
  unfold sp_write
  by_cases hm : R (1366 + 3 * g + 2) = -1
  · rw [if_pos hm, if_pos hm]
    refine rn_f (by decide) ?_
    refine rn_bind (k_refuse hK) (fun r hr => rn_some ?_)
    exact ko_lg hC hr rfl
  · rw [if_neg hm, if_neg hm]
    by_cases hi : h < 0 ∨ R (1366 + 3 * g + 2) ≤ h
    · rw [if_pos hi, if_pos hi]
      refine rn_f (by decide) ?_
      refine rn_bind (k_refuse hK) (fun r hr => rn_some ?_)
      exact ko_lg hC hr rfl
    · rw [if_neg hi, if_neg hi]
      refine rn_t rfl ?_
      have hv := hh.resolve_left hm
      rw [hv] at hi
      obtain ⟨t, ht9, rfl, e2⟩ := st_of (by omega) hi
      rw [e2]
      refine rn_bind (ci_change hNf hC hR.1 hR.2.1 hKF.1) (fun s1 hs => ?_)
      obtain ⟨f1, g1, g2, g3, ow1, y1, -, c1⟩ := hs
      have hK1 := c1.1
      have hw1 := c1.2.1
      have hB1 : BK s1.1 s1.2 z ow1 3 R y1.1 := c1.2.2.1
      have hbt := hB1.bt.1
      unfold f_X11_note_27
      refine r_gP hK1 0 11 1 3 rfl (by decide) ?_
      refine rn_bind (k_setCell (b := 3) (Or.inl rfl) hK1 hR.1 hbt.2.2.1 hB1.bt.2 hbt.2.2.2.2.2.1 hg (by omega)) (fun d1 hd => ?_)
      obtain ⟨a, rfl, q1, q2, hce⟩ := hd
      have hfx : FD (IX z ow1 3 3) s1.2 (wJ s1.2 a (200 * g + t) (cellv v m)) := fun j hj => ⟨rfl, up2_n (fun e => hj (by rw [e]; unfold IX; rw [onr_r (o := 3) (k := 0) q2 (by omega)]; omega)), rfl, rfl⟩
      have hbt2 : BT s1.1 (wJ s1.2 a (200 * g + t) (cellv v m)) z ow1 3 (wrR R (200 * g + t) v m) y1.1 := bt_congr hR hbt (fun j hj => wr_out (by omega) (by omega))
      have hce2 : CE s1.1 (wJ s1.2 a (200 * g + t) (cellv v m)) z ow1 3 y1.1.2.2.2.2 (inC (wrR R (200 * g + t) v m)) (vC (wrR R (200 * g + t) v m)) := by
        obtain ⟨a', z1, z2, z3, z4, z5, z6⟩ := hce
        refine ⟨a', z1, z2, z3, z4, z5, fun k hk => ?_⟩
        obtain ⟨g', h', r1, r2, r3⟩ := hk
        have en : ∀ j, j < 1426 → nn (wrR R (200 * g + t) v m) j = nn R j := fun j hj => by unfold nn; rw [wr_out (by omega) (by omega)]
        rw [en 2 (by omega)] at r1
        rw [en _ (by omega)] at r2
        have b2 := (hR.2.1 g' r1).2
        have r := z6 k (Or.inl ⟨g', h', r1, r2, r3⟩)
        refine ⟨r.1, r.2.trans ?_⟩
        rw [vC_wr (by omega) (by omega)]
      have qn := ci_new c1 g1 g2 g3 (hfx.mono (fun a ha => ix_mono ha (by omega) (by omega))) (hbt2.bk hce2) (pb_congr c1.2.2.2.2.2.1 (wr_out (by omega) (by omega)) (fun j hj => wr_out (by omega) (by omega)))
      refine rn_bind (k_answer hK1) (fun r hr => rn_some ?_)
      have q2 := ci_lg qn.1 hr.2
      exact ⟨hr.1, (f1.tr qn.2).tr q2.2, ow1, y1, q2.1⟩
theorem ix_rd (k g h : Nat) : nI k + (200 : Int32) * nI g + nI h = nI (k + 200 * g + h) := by
  rw [show (200 : Int32) = nI 200 from rfl, pk_mul, nI_add, nI_add]
theorem m_writes {g : Nat} {h v m : Int32} (hNf : 15642 < N) (hK : KS sh z) (hI : RI d z R K u) (hR : WF R) (hg : g < nn R 2) : Rn (f_X12_writes N sh (z + 242) (nI g) h v m d) (RO z R K u (sp_write R g h v m) d) := by
  have hN := hR.1
  have n2 := hN.2.2.1.2
  obtain ⟨hh, hh2⟩ := hR.2.1 g hg
  have ha := ks_a hK 243 0 15642 rfl
  have bars : f_X12_bars N sh (z + 242) (nI g) h d = some (if R (1366 + 3 * g + 2) = -1 then -4 else if h < 0 ∨ R (1366 + 3 * g + 2) ≤ h then -5 else 0) := by
    refine rn_val ?_
    unfold f_X12_bars
    refine rn_t (ks_o hK 242 12 rfl) ?_
    refine r_gP hK 242 12 0 243 rfl (by decide) ?_
    refine rn_eq (m_ga hK) ?_
    refine rn_eq (q_aT ha (1366 + 3 * g + 2) (ix_ga g 2) (by omega) (by decide)) ?_
    rw [hI.1 _ (by omega)]
    by_cases hm : R (1366 + 3 * g + 2) = -1
    · rw [if_pos hm]
      exact rn_f (by rw [hm]; decide) (rn_some rfl)
    · have hv := hh.resolve_left hm
      rw [if_neg hm, hv]
      refine rn_t (nI_pos' (by omega)) ?_
      refine rn_eq m_in ?_
      simp only [lt_pred (show nn R (1366 + 3 * g + 2) < 2 ^ 31 by omega)]
      by_cases h1 : h < 0 ∨ nI (nn R (1366 + 3 * g + 2)) ≤ h
      · rw [if_pos h1, if_pos h1]
        exact rn_t rfl (rn_some rfl)
      · rw [if_neg h1, if_neg h1]
        exact rn_f (by decide) (rn_some rfl)
  unfold f_X12_writes
  refine rn_t (ks_o hK 242 12 rfl) ?_
  refine rn_eq bars ?_
  unfold sp_write
  by_cases hm : R (1366 + 3 * g + 2) = -1
  · rw [if_pos hm, if_pos hm]
    refine rn_f (by decide) ?_
    exact ro_refuses hK hI rfl
  · rw [if_neg hm, if_neg hm]
    by_cases hi : h < 0 ∨ R (1366 + 3 * g + 2) ≤ h
    · rw [if_pos hi, if_pos hi]
      refine rn_f (by decide) ?_
      exact ro_refuses hK hI rfl
    · rw [if_neg hi, if_neg hi]
      refine rn_t rfl ?_
      have hv := hh.resolve_left hm
      rw [hv] at hi
      obtain ⟨t, ht9, rfl, e2⟩ := st_of (by omega) hi
      rw [e2]
      refine rn_bind (ri_keeps hI hK hNf) (fun d1 hd => ?_)
      obtain ⟨x1, x2⟩ := hd
      refine r_gP hK 242 12 0 243 rfl (by decide) ?_
      refine rn_eq (q_sI ha (1426 + (200 * g + t)) ((ix_rd 1426 g t).trans (by rw [Nat.add_assoc])) (by omega) (by decide)) ?_
      refine r_gP hK 242 12 0 243 rfl (by decide) ?_
      refine rn_eq (q_sI ha (5426 + (200 * g + t)) ((ix_rd 5426 g t).trans (by rw [Nat.add_assoc])) (by omega) (by decide)) ?_
      have r1 := ri_cellG (j := 1426 + (200 * g + t)) (v := v) x1 hN (by omega) (fun s k _ q1 q2 => by omega)
      have r2 := ri_cellG (j := 5426 + (200 * g + t)) (v := m) r1 (wn_up hN (by omega)) (by omega) (fun s k _ q1 q2 => by omega)
      exact ro_done hK r2 (x2.tr ((MFR.wI (by decide) (by decide)).tr (MFR.wI (by decide) (by decide)))) rfl
def sp_none (R : Nat → Int32) (x h w : Int32) : Int32 × Option (Nat → Int32) := if (x < 0 ∨ nI (nn R 2) ≤ x) ∨ (w < 0 ∨ 1 < w) then (-2, none) else if w = 0 then sp_write R x.toNatClampNeg h (-32768) 1 else sp_write R x.toNatClampNeg h 32767 2
theorem w01 {w : Int32} (h : ¬ (w < 0 ∨ 1 < w)) : w = 0 ∨ w = 1 := by
  have h2 : ¬ (w < 0 ∨ nI 2 ≤ w) := fun q => h (q.elim Or.inl (fun q => Or.inr ((lt_pred (n := 2) (by decide)).mpr q)))
  obtain ⟨k, hk, rfl, -⟩ := st_of (n := 2) (by decide) h2
  rcases (show k = 0 ∨ k = 1 by omega) with rfl | rfl
  · exact Or.inl rfl
  · exact Or.inr rfl
theorem m_none {x h w : Int32} (hNf : 15642 < N) (hK : KS sh z) (hI : RI d z R K u) (hR : WF R) : Rn (f_X12_none N sh (z + 242) x h w d) (RO z R K u (sp_none R x h w) d) := by
  have n2 := hR.1.2.2.1.2
  unfold f_X12_none
  refine rn_t (ks_o hK 242 12 rfl) ?_
  refine rn_eq (ri_isGauge hK hI hR.1) ?_
  by_cases hb : x < 0 ∨ nI (nn R 2) ≤ x
  · rw [show sp_none R x h w = _ from if_pos (Or.inl hb)]
    refine rn_t (ite01.mpr hb) ?_
    exact ro_refuses hK hI rfl
  · refine rn_f (fun q => hb (ite01.mp q)) ?_
    refine rn_eq m_in ?_
    by_cases hw : w < 0 ∨ 1 < w
    · rw [show sp_none R x h w = _ from if_pos (Or.inr hw)]
      refine rn_f (fun q => q (ite01.mpr hw)) ?_
      exact ro_refuses hK hI rfl
    · rw [show sp_none R x h w = _ from if_neg (fun q => q.elim hb hw)]
      refine rn_t (fun q => hw (ite01.mp q)) ?_
      obtain ⟨g, hg, rfl, e2⟩ := st_of (by omega) hb
      rw [e2]
      rcases w01 hw with rfl | rfl
      · rw [if_pos rfl]
        refine rn_f (fun q => q rfl) ?_
        exact rn_bind (m_writes hNf hK hI hR hg) (fun r hr => rn_some hr)
      · rw [if_neg (show ¬ (1 : Int32) = 0 by decide)]
        refine rn_t (by decide) ?_
        exact rn_bind (m_writes hNf hK hI hR hg) (fun r hr => rn_some hr)
theorem k_none {x h w : Int32} (hNf : 30 ≤ N) (hC : CI s z ow R K u y c) (hR : WF R) (hKF : WF K) : Rn (f_X11_none N z x h w s) (KO z R K u c (sp_none R x h w) s) := by
  have hK := hC.1
  have n2 := hR.1.2.2.1.2
  have ht : tck 15 3 = true := by decide
  have hB : BK s.1 s.2 z ow 3 R y.1 := hC.2.2.1
  have bad : ∀ o, o = (-2, none) → Rn (f_X11_none_23 N z s) (KO z R K u c o s) := fun o ho => by
    unfold f_X11_none_23
    refine rn_bind (k_refuse hK) (fun r hr => rn_some ?_)
    exact ko_lg hC hr ho
  unfold f_X11_none
  refine rn_t (ks_o hK 0 11 rfl) ?_
  refine r_gP hK 0 11 1 3 rfl (by decide) ?_
  refine r_gP hK 3 1 2 15 rfl (by decide) ?_
  refine rn_eq (tb_has (o := 15) (nc := 3) hK ht hB.2.2.1) ?_
  by_cases hb : x < 0 ∨ nI (nn R 2) ≤ x
  · refine rn_t (ite01.mpr hb) ?_
    exact bad _ (if_pos (Or.inl hb))
  · refine rn_f (fun q => hb (ite01.mp q)) ?_
    by_cases hw : w < 0 ∨ 1 < w
    · refine rn_ite (fun _ => bad _ (if_pos (Or.inr hw))) (fun h1 => ?_)
      exact rn_f (fun q => Int32.not_lt.mpr q (hw.resolve_left h1)) (bad _ (if_pos (Or.inr hw)))
    · rw [show sp_none R x h w = _ from if_neg (fun q => q.elim hb hw)]
      obtain ⟨g, hg, rfl, e2⟩ := st_of (by omega) hb
      rw [e2]
      rcases w01 hw with rfl | rfl
      · rw [if_pos rfl]
        refine rn_f (by decide) (rn_t (by decide) (rn_f (fun q => q rfl) ?_))
        exact rn_bind (k_note (v := -32768) (m := 1) hNf hC hR hKF hg) (fun r hr => rn_some hr)
      · rw [if_neg (show ¬ (1 : Int32) = 0 by decide)]
        refine rn_f (by decide) (rn_t (by decide) (rn_t (by decide) ?_))
        exact rn_bind (k_note (v := 32767) (m := 2) hNf hC hR hKF hg) (fun r hr => rn_some hr)
def lowm (v : Int32) : Int32 := if v = -32768 then 1 else if v = 32767 then 2 else 0
def sp_reading (R : Nat → Int32) (x h v : Int32) : Int32 × Option (Nat → Int32) := if x < 0 ∨ nI (nn R 2) ≤ x then (-2, none) else if R (1366 + 3 * x.toNatClampNeg + 1) = 0 then sp_write R x.toNatClampNeg h v 0 else sp_write R x.toNatClampNeg h v.toInt16.toInt32 (lowm v.toInt16.toInt32)
theorem m_reading {x h v : Int32} (hNf : 15642 < N) (hK : KS sh z) (hI : RI d z R K u) (hR : WF R) : Rn (f_X12_reading N sh (z + 242) x h v d) (RO z R K u (sp_reading R x h v) d) := by
  have n2 := hR.1.2.2.1.2
  unfold f_X12_reading
  refine rn_t (ks_o hK 242 12 rfl) ?_
  refine rn_eq (ri_isGauge hK hI hR.1) ?_
  by_cases hb : x < 0 ∨ nI (nn R 2) ≤ x
  · rw [show sp_reading R x h v = _ from if_pos hb]
    refine rn_f (fun q => q (ite01.mpr hb)) ?_
    exact ro_refuses hK hI rfl
  · rw [show sp_reading R x h v = _ from if_neg hb]
    refine rn_t (fun q => hb (ite01.mp q)) ?_
    obtain ⟨g, hg, rfl, e2⟩ := st_of (by omega) hb
    rw [e2]
    refine r_gP hK 242 12 0 243 rfl (by decide) ?_
    refine rn_eq (m_ga hK) ?_
    refine rn_eq (q_aT (ks_a hK 243 0 15642 rfl) (1366 + 3 * g + 1) (ix_ga g 1) (by omega) (by decide)) ?_
    rw [hI.1 _ (by omega)]
    by_cases h0 : R (1366 + 3 * g + 1) = 0
    · rw [if_pos h0]
      refine rn_f (fun q => q h0) ?_
      exact rn_bind (m_writes hNf hK hI hR hg) (fun r hr => rn_some hr)
    · rw [if_neg h0]
      refine rn_t h0 ?_
      generalize v.toInt16.toInt32 = lw
      unfold lowm
      by_cases h1 : lw = -32768
      · rw [if_pos h1]
        refine rn_f (fun q => q h1) ?_
        exact rn_bind (m_writes hNf hK hI hR hg) (fun r hr => rn_some hr)
      · rw [if_neg h1]
        refine rn_t h1 ?_
        by_cases h2 : lw = 32767
        · rw [if_pos h2]
          refine rn_f (fun q => q h2) ?_
          exact rn_bind (m_writes hNf hK hI hR hg) (fun r hr => rn_some hr)
        · rw [if_neg h2]
          refine rn_t h2 ?_
          exact rn_bind (m_writes hNf hK hI hR hg) (fun r hr => rn_some hr)
theorem k_reading {x h v : Int32} (hNf : 30 ≤ N) (hC : CI s z ow R K u y c) (hR : WF R) (hKF : WF K) : Rn (f_X11_reading N z x h v s) (KO z R K u c (sp_reading R x h v) s) := by
  have hK := hC.1
  have n2 := hR.1.2.2.1.2
  have ht : tck 15 3 = true := by decide
  have hB : BK s.1 s.2 z ow 3 R y.1 := hC.2.2.1
  unfold f_X11_reading
  refine rn_t (ks_o hK 0 11 rfl) ?_
  refine r_gP hK 0 11 1 3 rfl (by decide) ?_
  refine r_gP hK 3 1 2 15 rfl (by decide) ?_
  refine rn_eq (tb_has (o := 15) (nc := 3) hK ht hB.2.2.1) ?_
  by_cases hb : x < 0 ∨ nI (nn R 2) ≤ x
  · rw [show sp_reading R x h v = _ from if_pos hb]
    refine rn_f (fun q => q (ite01.mpr hb)) ?_
    refine rn_bind (k_refuse hK) (fun r hr => rn_some ?_)
    exact ko_lg hC hr rfl
  · rw [show sp_reading R x h v = _ from if_neg hb]
    refine rn_t (fun q => hb (ite01.mp q)) ?_
    obtain ⟨g, hg, rfl, e2⟩ := st_of (by omega) hb
    rw [e2]
    have hsh := ((hR.2.2.2.1.1 g hg).2)
    have short : f_X1_isOfShorts N s.1 (z + 3) (nI g) s.2 = some (R (1366 + 3 * g + 1)) := by
      refine rn_val ?_
      unfold f_X1_isOfShorts
      refine rn_t (ks_o hK 3 1 rfl) ?_
      refine r_gP hK 3 1 2 15 rfl (by decide) ?_
      refine rn_eq (tb_get (o := 15) (nc := 3) (c := 1) hK ht hB.2.2.1 rfl hg rfl (by decide)) ?_
      have ev : vG R 1 g = R (1366 + 3 * g + 1) := rfl
      rw [ev]
      rcases hsh with e | e
      · rw [e]
        exact rn_t (by decide) ⟨0, rfl, rfl⟩
      · rw [e]
        exact rn_f (fun q => q rfl) ⟨1, rfl, rfl⟩
    refine r_gP hK 0 11 1 3 rfl (by decide) ?_
    refine rn_eq short ?_
    by_cases h0 : R (1366 + 3 * g + 1) = 0
    · refine rn_t h0 ?_
      rw [if_pos h0]
      exact rn_bind (k_note (v := v) (m := 0) hNf hC hR hKF hg) (fun r hr => rn_some hr)
    · refine rn_f h0 ?_
      rw [if_neg h0]
      generalize v.toInt16.toInt32 = lw
      refine rn_eq (v := cellv lw (lowm lw)) ?_ ?_
      · unfold f_X1_cellOfShort cellv lowm
        by_cases h1 : lw = -32768
        · rw [if_neg (fun q => q h1), if_pos h1, if_pos rfl]
        · rw [if_pos h1, if_neg h1]
          by_cases h2 : lw = 32767
          · rw [if_neg (fun q => q h2), if_pos h2, if_neg (show ¬ (2 : Int32) = 1 by decide), if_pos rfl]
            rfl
          · rw [if_pos h2, if_neg h2, if_neg (show ¬ (0 : Int32) = 1 by decide), if_neg (show ¬ (0 : Int32) = 2 by decide)]
            rfl
      · exact rn_bind (k_note (v := lw) (m := lowm lw) hNf hC hR hKF hg) (fun r hr => rn_some hr)
end NO
/-! 59.wf.lean.txt -/
/-! what is well formed stays so -/
section WFS
variable {R : Nat → Int32}
theorem wf_upS {i k : Nat} {v : Int32} (hR : WF R) (hi : i < nn R 1) (hk : k < 6) (h45 : k = 4 ∨ k = 5 → v = 0 ∨ v = 1) (h3 : k = 3 → v = nI v.toNatClampNeg ∧ v.toNatClampNeg ≤ 2) : WF (va_up R (16 + 9 * i + k) v) := by
  have n1 := hR.1.2.1.2
  have n2 := hR.1.2.2.1.2
  have e : ∀ j, j ≠ 16 + 9 * i + k → va_up R (16 + 9 * i + k) v j = R j := fun j hj => va_up_n hj
  have en : ∀ j, j ≠ 16 + 9 * i + k → nn (va_up R (16 + 9 * i + k) v) j = nn R j := fun j hj => nn_up hj
  refine ⟨wn_up hR.1 (by omega), fun g hg => ?_, fun t ht => ?_, ⟨fun g hg => ?_, fun x hx => ?_⟩, fun p hp => ?_, fun j hj => ?_⟩
  · rw [en 2 (by omega)] at hg
    rw [e (1366 + 3 * g + 2) (by omega), en (1366 + 3 * g + 2) (by omega)]
    exact hR.2.1 g hg
  · rw [en 1 (by omega)] at ht
    obtain ⟨⟨a, b, q1, q2, q3, q4, q5⟩, q6, q7, q8, q9⟩ := hR.2.2.1 t ht
    refine ⟨⟨a, b, by rw [en 0 (by omega)]; exact q1, by rw [en 0 (by omega)]; exact q2, q3, by rw [e _ (by omega)]; exact q4, by rw [e _ (by omega)]; exact q5⟩, ?_, ?_, ?_, ?_⟩
    · unfold sln
      rw [e (16 + 9 * t + 6) (by omega), en (16 + 9 * t + 6) (by omega)]
      exact q6
    · by_cases q : t = i ∧ k = 5
      · obtain ⟨rfl, rfl⟩ := q
        rw [va_up_s]
        exact h45 (Or.inr rfl)
      · rw [e (16 + 9 * t + 5) (by omega)]
        exact q7
    · by_cases q : t = i ∧ k = 4
      · obtain ⟨rfl, rfl⟩ := q
        rw [va_up_s]
        exact h45 (Or.inl rfl)
      · rw [e (16 + 9 * t + 4) (by omega)]
        exact q8
    · by_cases q : t = i ∧ k = 3
      · obtain ⟨rfl, rfl⟩ := q
        unfold nn
        rw [va_up_s]
        exact h3 rfl
      · rw [e (16 + 9 * t + 3) (by omega), en (16 + 9 * t + 3) (by omega)]
        exact q9
  · rw [en 2 (by omega)] at hg
    rw [en 0 (by omega), e (1366 + 3 * g) (by omega), e (1366 + 3 * g + 1) (by omega)]
    exact hR.2.2.2.1.1 g hg
  · obtain ⟨g, h, q1, q2, q3⟩ := hx
    rw [en 2 (by omega)] at q1
    rw [en _ (by omega)] at q2
    rw [e (5426 + x) (by omega)]
    exact hR.2.2.2.1.2 x ⟨g, h, q1, q2, q3⟩
  · rw [en 3 (by omega)] at hp
    rw [en 3 (by omega), en 4 (by omega), e (9426 + 13 * p) (by omega), en (9426 + 13 * p) (by omega), e (9426 + 13 * p + 3) (by omega), e (9426 + 13 * p + 4) (by omega), e (9426 + 13 * p + 1) (by omega), en (9426 + 13 * p + 1) (by omega), e (9426 + 13 * p + 2) (by omega), e (9426 + 13 * p + 6) (by omega), e (9426 + 13 * p + 7) (by omega), e (9426 + 13 * p + 8) (by omega)]
    obtain ⟨q1, q2, q3⟩ := hR.2.2.2.2.1 p hp
    refine ⟨q1, fun q => ?_, q3⟩
    obtain ⟨a, b, r1, r2, r3, r4, r5, r6⟩ := q2 q
    exact ⟨a, b, r1, r2, r3, r4, by rw [en _ (by omega)]; exact r5, by rw [en _ (by omega)]; exact r6⟩
  · rw [en 4 (by omega)] at hj
    obtain ⟨t, c, q1, q2, q3, q4, q5⟩ := hR.2.2.2.2.2 j hj
    exact ⟨t, c, by rw [en 1 (by omega)]; exact q1, by rw [e _ (by omega)]; exact q2, by rw [e _ (by omega)]; exact q3, by rw [e (16 + 9 * t + 7) (by omega), e (16 + 9 * t + 8) (by omega)]; exact q4, by rw [e _ (by omega)]; exact q5⟩
/-- a CHANGE of gauges and readings alone -/
theorem wf_gau {R' : Nat → Int32} (hR : WF R) (e : ∀ j, j < 1366 ∨ 9426 ≤ j → R' j = R j) (hG : WG R') (hC : WC R') : WF R' := by
  have n1 := hR.1.2.1.2
  have en : ∀ j, j < 1366 ∨ 9426 ≤ j → nn R' j = nn R j := fun j hj => by unfold nn; rw [e j hj]
  refine ⟨?_, hG, fun t ht => ?_, hC, fun p hp => ?_, fun j hj => ?_⟩
  · unfold WN
    rw [e 0 (by omega), e 1 (by omega), e 2 (by omega), e 3 (by omega), e 4 (by omega), en 0 (by omega), en 1 (by omega), en 2 (by omega), en 3 (by omega), en 4 (by omega)]
    exact hR.1
  · rw [en 1 (by omega)] at ht
    unfold sln
    rw [en 0 (by omega), e (16 + 9 * t + 7) (by omega), e (16 + 9 * t + 8) (by omega), e (16 + 9 * t + 6) (by omega), en (16 + 9 * t + 6) (by omega), e (16 + 9 * t + 5) (by omega), e (16 + 9 * t + 4) (by omega), e (16 + 9 * t + 3) (by omega), en (16 + 9 * t + 3) (by omega)]
    exact hR.2.2.1 t ht
  · rw [en 3 (by omega)] at hp
    rw [en 3 (by omega), en 4 (by omega), e (9426 + 13 * p) (by omega), en (9426 + 13 * p) (by omega), e (9426 + 13 * p + 3) (by omega), e (9426 + 13 * p + 4) (by omega), e (9426 + 13 * p + 1) (by omega), en (9426 + 13 * p + 1) (by omega), e (9426 + 13 * p + 2) (by omega), e (9426 + 13 * p + 6) (by omega), e (9426 + 13 * p + 7) (by omega), e (9426 + 13 * p + 8) (by omega)]
    obtain ⟨q1, q2, q3⟩ := hR.2.2.2.2.1 p hp
    refine ⟨q1, fun q => ?_, q3⟩
    obtain ⟨a, b, r1, r2, r3, r4, r5, r6⟩ := q2 q
    exact ⟨a, b, r1, r2, r3, r4, by rw [en _ (by omega)]; exact r5, by rw [en _ (by omega)]; exact r6⟩
  · rw [en 4 (by omega)] at hj
    obtain ⟨t, c, q1, q2, q3, q4, q5⟩ := hR.2.2.2.2.2 j hj
    exact ⟨t, c, by rw [en 1 (by omega)]; exact q1, by rw [e _ (by omega)]; exact q2, by rw [e _ (by omega)]; exact q3, by rw [e (16 + 9 * t + 7) (by omega), e (16 + 9 * t + 8) (by omega)]; exact q4, by rw [e _ (by omega)]; exact q5⟩
end WFS
/-! 60.way.lean.txt -/
/-! THE WAYS: a table of lengths that is tight and feasible tells the least lengths -/
def cnt (f : Nat → Nat) (t : Nat) : Nat → Nat
  | 0 => 0
  | n + 1 => cnt f t n + (if f n < t then 1 else 0)
section WYP
variable {R : Nat → Int32} {f : Nat → Nat}
theorem cnt_le {t : Nat} : ∀ n, cnt f t n ≤ n
  | 0 => Nat.le_refl 0
  | n + 1 => by
    have := cnt_le (t := t) n
    show cnt f t n + (if f n < t then 1 else 0) ≤ n + 1
    split <;> omega
theorem cnt_mono {t t' : Nat} (h : t ≤ t') : ∀ n, cnt f t n ≤ cnt f t' n
  | 0 => Nat.le_refl 0
  | n + 1 => by
    have := cnt_mono h n
    show cnt f t n + (if f n < t then 1 else 0) ≤ cnt f t' n + (if f n < t' then 1 else 0)
    split <;> split <;> omega
theorem cnt_lt {t t' c : Nat} (h : t ≤ t') (h1 : t ≤ f c) (h2 : f c < t') : ∀ n, c < n → cnt f t n + 1 ≤ cnt f t' n
  | 0, hc => absurd hc (Nat.not_lt_zero c)
  | n + 1, hc => by
    show cnt f t n + (if f n < t then 1 else 0) + 1 ≤ cnt f t' n + (if f n < t' then 1 else 0)
    by_cases e : c = n
    · subst e
      have := cnt_mono (f := f) h c
      rw [if_neg (by omega), if_pos h2]
      omega
    · have := cnt_lt h h1 h2 n (by omega)
      split <;> split <;> omega
theorem tight_le {n M F b : Nat} (hb : f b = 0) (ht : ∀ a, a < n → a ≠ b → f a < F → ∃ c, c < n ∧ f c < f a ∧ f a ≤ f c + M) : ∀ (k a : Nat), f a ≤ k → a < n → f a < F → f a ≤ M * cnt f (f a) n
  | k, a, hk, ha, hF => by
    by_cases e : a = b
    · rw [e, hb]
      exact Nat.zero_le _
    · obtain ⟨c, h1, h2, h3⟩ := ht a ha e hF
      have hk1 : 0 < k := by omega
      have ih := tight_le hb ht (k - 1) c (by omega) h1 (by omega)
      have q := cnt_lt (f := f) (t := f c) (t' := f a) (c := c) (by omega) (Nat.le_refl _) h2 n h1
      have q2 : M * (cnt f (f c) n + 1) ≤ M * cnt f (f a) n := Nat.mul_le_mul_left M q
      rw [Nat.mul_add, Nat.mul_one] at q2
      omega
  termination_by k => k
  decreasing_by omega
theorem tight_bd {n M F b a : Nat} (hb : f b = 0) (ht : ∀ a, a < n → a ≠ b → f a < F → ∃ c, c < n ∧ f c < f a ∧ f a ≤ f c + M) (ha : a < n) (hF : f a < F) : f a ≤ M * n := Nat.le_trans (tight_le hb ht (f a) a (Nat.le_refl _) ha hF) (Nat.mul_le_mul_left M (cnt_le n))
theorem edge_sln {s u v : Nat} (hW : WS R) (h : edge R s u v) : 1 ≤ sln R s ∧ sln R s ≤ 10000 := ⟨(hW s h.1).2.1.2.1, (hW s h.1).2.1.2.2⟩
theorem nI_inj {a b : Nat} (h : nI a = nI b) (ha : a < 2 ^ 31) (hb : b < 2 ^ 31) : a = b := (nI_eq ha hb).mp h
theorem edge_lt {s u v : Nat} (hW : WS R) (hN : WN R) (h : edge R s u v) (hu : u < 2 ^ 31) (hv : v < 2 ^ 31) : u < nn R 0 ∧ v < nn R 0 := by
  obtain ⟨a, b, h1, h2, h3, h4, h5⟩ := (hW s h.1).1
  have n0 := hN.1.2
  rcases h.2.2 with ⟨q1, q2⟩ | ⟨_, q1, q2⟩
  · rw [h4] at q1
    rw [h5] at q2
    have e1 := nI_inj q1 (by omega) hu
    have e2 := nI_inj q2 (by omega) hv
    omega
  · rw [h5] at q1
    rw [h4] at q2
    have e1 := nI_inj q1 (by omega) hu
    have e2 := nI_inj q2 (by omega) hv
    omega
theorem dst_of {F b : Nat} (hW : WS R) (hN : WN R) (hbn : b < nn R 0) (hb : f b = 0)
    (ht : ∀ a, a < nn R 0 → a ≠ b → f a < F → ∃ s c, c < nn R 0 ∧ edge R s a c ∧ f a = sln R s + f c)
    (hf : ∀ s a c, a < nn R 0 → c < nn R 0 → edge R s a c → f c < F → f a ≤ sln R s + f c) (hF : 700000 ≤ F) :
    ∀ a, a < nn R 0 → (f a < F → dst R a b (f a) ∧ f a ≤ 600000) ∧ (F ≤ f a → ∀ p, ¬ wk R p a b) := by
  have n0 := hN.1.2
  have ht2 : ∀ a, a < nn R 0 → a ≠ b → f a < F → ∃ c, c < nn R 0 ∧ f c < f a ∧ f a ≤ f c + 10000 := fun a h1 h2 h3 => by
    obtain ⟨s, c, q1, q2, q3⟩ := ht a h1 h2 h3
    have := edge_sln hW q2
    exact ⟨c, q1, by omega, by omega⟩
  have hbd : ∀ a, a < nn R 0 → f a < F → f a ≤ 600000 := fun a h1 h2 => by
    have := tight_bd hb ht2 h1 h2
    have : 10000 * nn R 0 ≤ 10000 * 60 := Nat.mul_le_mul_left _ n0
    omega
  have low : ∀ (p : List Nat) (a : Nat), a < nn R 0 → wk R p a b → f a < F ∧ f a ≤ wln R p := by
    intro p
    induction p with
    | nil =>
      intro a ha hw
      have hw : a = b := hw
      rw [hw, hb]
      exact ⟨by omega, Nat.zero_le _⟩
    | cons s p ih =>
      intro a ha hw
      obtain ⟨c, q1, q2, q3⟩ := hw
      obtain ⟨r1, r2⟩ := ih c q1 q3
      have := hf s a c ha q1 q2 r1
      have := edge_sln hW q2
      have := hbd c q1 r1
      refine ⟨by omega, ?_⟩
      show f a ≤ sln R s + wln R p
      omega
  have ex : ∀ (k a : Nat), f a ≤ k → a < nn R 0 → f a < F → ∃ p, wk R p a b ∧ wln R p = f a := by
    intro k
    induction k with
    | zero =>
      intro a hk ha hF
      by_cases e : a = b
      · exact ⟨[], e, by rw [e, hb]; rfl⟩
      · obtain ⟨s, c, q1, q2, q3⟩ := ht a ha e hF
        have := edge_sln hW q2
        omega
    | succ k ih =>
      intro a hk ha hF
      by_cases e : a = b
      · exact ⟨[], e, by rw [e, hb]; rfl⟩
      · obtain ⟨s, c, q1, q2, q3⟩ := ht a ha e hF
        have := edge_sln hW q2
        obtain ⟨p, r1, r2⟩ := ih c (by omega) q1 (by omega)
        refine ⟨s :: p, ⟨c, q1, q2, r1⟩, ?_⟩
        show sln R s + wln R p = f a
        omega
  intro a ha
  refine ⟨fun h => ⟨⟨ex (f a) a (Nat.le_refl _) ha h, fun p hp => (low p a ha hp).2⟩, hbd a ha h⟩, fun h p hp => ?_⟩
  have := (low p a ha hp).1
  omega
theorem dst_fun {u v n m : Nat} (h1 : dst R u v n) (h2 : dst R u v m) : n = m := by
  obtain ⟨⟨p, q1, q2⟩, q3⟩ := h1
  obtain ⟨⟨p', r1, r2⟩, r3⟩ := h2
  have := q3 p' r1
  have := r3 p q1
  omega
end WYP
/-! 61.reck.lean.txt -/
/-! the reference: reckon() -/
section RK
variable {β : Type} {Q : β → Prop} {sh : Sh} {d d0 : Dt} {z : Nat} {R K : Nat → Int32} {u : Bool} {N b : Nat} {f : Nat → Nat}
theorem rdg {g : Int32 → Option β} {x : Int32} (hK : KS sh z) (hA : AG (d.1 (z + 243)) R) (j : Nat) (hx : x = nI j) (hj : j < 15642) (kk : Rn (g (R j)) Q) : Rn ((gP sh (z + 242) 12 0).bind fun v => (aT 0 sh d v x).bind g) Q := by
  refine rd hK (R := d.1 (z + 243)) rfl j hx hj ?_
  rw [hA j hj]
  exact kk
/-- a STREET's cell, its row asked for first -/
theorem rds {g : Int32 → Option β} {x : Int32} {s : Nat} (hK : KS sh z) (hA : AG (d.1 (z + 243)) R) (k : Nat) (hs : s < 150) (hk : k < 9) (hx : x = nI k) (kk : Rn (g (R (16 + 9 * s + k))) Q) : Rn ((gP sh (z + 242) 12 0).bind fun v1 => (f_X12_st N sh (z + 242) (nI s) d).bind fun v2 => (aT 0 sh d v1 (v2 + x)).bind g) Q := by
  subst hx
  refine r_gP hK 242 12 0 243 rfl (by decide) ?_
  refine rn_eq (m_st hK) ?_
  refine rn_eq (q_aT (ks_a hK 243 0 15642 rfl) (16 + 9 * s + k) (ix_st s k) (by omega) (by decide)) ?_
  rw [hA _ (by omega)]
  exact kk
theorem m_isOpen {s : Nat} (hK : KS sh z) (hA : AG (d.1 (z + 243)) R) (hs : s < 150) : f_X12_isOpen N sh (z + 242) (nI s) d = some (if R (16 + 9 * s + 4) = 0 then 1 else 0) := by
  refine rn_val ?_
  unfold f_X12_isOpen
  refine rn_t (ks_o hK 242 12 rfl) ?_
  refine rds hK hA 4 hs (by decide) rfl ?_
  refine rn_ite (fun h1 => ?_) (fun h1 => ?_)
  · rw [if_neg h1]
    exact ⟨0, rfl, rfl⟩
  · rw [if_pos (Decidable.of_not_not h1)]
    exact ⟨1, rfl, rfl⟩
/-- where a STREET leads from v -/
def ldv (R : Nat → Int32) (s : Nat) (v : Int32) : Int32 := if R (16 + 9 * s + 7) = v then R (16 + 9 * s + 8) else if R (16 + 9 * s + 8) = v ∧ R (16 + 9 * s + 5) = 0 then R (16 + 9 * s + 7) else -1
theorem m_leads {s : Nat} {v : Int32} (hK : KS sh z) (hA : AG (d.1 (z + 243)) R) (hs : s < 150) : f_X12_leads N sh (z + 242) (nI s) v d = some (ldv R s v) := by
  refine rn_val ?_
  unfold f_X12_leads ldv
  refine rn_t (ks_o hK 242 12 rfl) ?_
  refine rn_eq (m_st hK) ?_
  refine rdg hK hA (16 + 9 * s + 7) (ix_st s 7) (by omega) ?_
  refine rn_ite (fun h1 => ?_) (fun h1 => ?_)
  · rw [if_neg h1]
    refine rdg hK hA (16 + 9 * s + 8) (ix_st s 8) (by omega) ?_
    refine rn_ite (fun h2 => ?_) (fun h2 => ?_)
    · rw [if_neg (fun q => h2 q.1)]
      exact ⟨_, rfl, rfl⟩
    · have h2 := Decidable.of_not_not h2
      refine rdg hK hA (16 + 9 * s + 5) (ix_st s 5) (by omega) ?_
      refine rn_ite (fun h3 => ?_) (fun h3 => ?_)
      · rw [if_neg (fun q => h3 q.2)]
        exact ⟨_, rfl, rfl⟩
      · rw [if_pos ⟨h2, Decidable.of_not_not h3⟩]
        refine rdg hK hA (16 + 9 * s + 7) (ix_st s 7) (by omega) ?_
        exact ⟨_, rfl, rfl⟩
  · rw [if_pos (Decidable.of_not_not h1)]
    refine rdg hK hA (16 + 9 * s + 8) (ix_st s 8) (by omega) ?_
    exact ⟨_, rfl, rfl⟩
/-- the lengths to b as they stand so far -/
def RX (d : Dt) (z : Nat) (R : Nat → Int32) (b : Nat) (f : Nat → Nat) : Prop := f b = 0 ∧ ∀ a, a < nn R 0 → d.1 (z + 247) (60 * a + b) = nI (f a) ∧ f a ≤ 2 ^ 28 ∧ (a ≠ b → f a < 2 ^ 28 → ∃ s c, c < nn R 0 ∧ edge R s a c ∧ sln R s + f c ≤ f a ∧ f c < 2 ^ 28)
/-- only lengths to b are touched -/
def MWb (z b : Nat) (d d' : Dt) : Prop := d'.2 = d.2 ∧ (∀ a, a ≠ z + 247 → d'.1 a = d.1 a) ∧ ∀ k, (∀ a, a < 60 → k ≠ 60 * a + b) → d'.1 (z + 247) k = d.1 (z + 247) k
theorem MWb.rf : MWb z b d d := ⟨rfl, fun _ _ => rfl, fun _ _ => rfl⟩
theorem MWb.tr {d1 d2 : Dt} (h1 : MWb z b d d1) (h2 : MWb z b d1 d2) : MWb z b d d2 := ⟨h2.1.trans h1.1, fun a q => (h2.2.1 a q).trans (h1.2.1 a q), fun k q => (h2.2.2 k q).trans (h1.2.2 k q)⟩
theorem MWb.w {a : Nat} {v : Int32} (ha : a < 60) : MWb z b d (wI d (z + 247) (60 * a + b) v) := ⟨rfl, fun c q => wI_n q, fun k q => by rw [wI_s, va_up_n (q a ha)]⟩
theorem MWb.ag {d' : Dt} (h : MWb z b d d') (hA : AG (d.1 (z + 243)) R) : AG (d'.1 (z + 243)) R := by
  rw [h.2.1 (z + 243) (by omega)]
  exact hA
theorem ix_far (a b : Nat) : (60 : Int32) * nI a + nI b = nI (60 * a + b) := by
  rw [show (60 : Int32) = nI 60 from rfl, pk_mul, nI_add]
theorem m_lessens {s a c : Nat} (hK : KS sh z) (hN : WN R) (hW : WS R) (hb : b < nn R 0) (ha : a < nn R 0) (hc : c < nn R 0) (he : edge R s a c) (hX : RX d z R b f) : Rn (f_X12_lessens N sh (z + 242) (nI a) (nI c) (nI (sln R s)) (nI b) d) (fun r => ∃ f1, RX r.2 z R b f1 ∧ MWb z b d r.2 ∧ ((r.1 = 0 ∧ f1 = f ∧ f a ≤ sln R s + f c) ∨ (r.1 = 1 ∧ smN f1 (nn R 0) < smN f (nn R 0)))) := by
  have n0 := hN.1.2
  have hl := edge_sln hW he
  have hA := ks_a hK 247 0 3600 rfl
  obtain ⟨xa, xa2, xa3⟩ := hX.2 a ha
  obtain ⟨xc, xc2, xc3⟩ := hX.2 c hc
  unfold f_X12_lessens
  refine rn_t (ks_o hK 242 12 rfl) ?_
  refine r_gP hK 242 12 9 247 rfl (by decide) ?_
  refine rn_eq (q_aT hA (60 * c + b) (ix_far c b) (by omega) (by decide)) ?_
  refine r_gP hK 242 12 9 247 rfl (by decide) ?_
  refine rn_eq (q_aT hA (60 * a + b) (ix_far a b) (by omega) (by decide)) ?_
  rw [xa, xc, nI_add]
  by_cases hle : f a ≤ f c + sln R s
  · refine rn_t ((nI_leI (by omega) (by omega)).mpr hle) ?_
    exact rn_some ⟨f, hX, MWb.rf, Or.inl ⟨rfl, rfl, by omega⟩⟩
  · refine rn_f (fun q => hle ((nI_leI (by omega) (by omega)).mp q)) ?_
    refine r_gP hK 242 12 9 247 rfl (by decide) ?_
    refine r_gP hK 242 12 9 247 rfl (by decide) ?_
    refine rn_eq (q_aT hA (60 * c + b) (ix_far c b) (by omega) (by decide)) ?_
    rw [xc, nI_add]
    refine rn_eq (q_sI hA (60 * a + b) (ix_far a b) (by omega) (by decide)) ?_
    have hab : a ≠ b := fun e => by
      rw [e, hX.1] at hle
      omega
    have hca : c ≠ a := fun e => by
      rw [e] at hle
      omega
    refine rn_some ⟨va_up f a (f c + sln R s), ⟨?_, fun x hx => ?_⟩, MWb.w (by omega), Or.inr ⟨rfl, ?_⟩⟩
    · rw [va_up_n (fun e => hab e.symm)]
      exact hX.1
    · show (wI d (z + 247) (60 * a + b) (nI (f c + sln R s))).1 (z + 247) (60 * x + b) = _ ∧ _
      rw [wI_s]
      obtain ⟨y1, y2, y3⟩ := hX.2 x hx
      by_cases e : x = a
      · subst e
        rw [va_up_s, va_up_s]
        refine ⟨rfl, by omega, fun _ _ => ⟨s, c, hc, he, ?_, ?_⟩⟩
        · rw [va_up_n hca]
          omega
        · rw [va_up_n hca]
          omega
      · rw [va_up_n (by omega), va_up_n e]
        refine ⟨y1, y2, fun q1 q2 => ?_⟩
        obtain ⟨t, e2, r1, r2, r3, r4⟩ := y3 q1 q2
        refine ⟨t, e2, r1, r2, ?_, ?_⟩
        · by_cases e3 : e2 = a
          · subst e3
            rw [va_up_s]
            omega
          · rw [va_up_n e3]
            exact r3
        · by_cases e3 : e2 = a
          · subst e3
            rw [va_up_s]
            omega
          · rw [va_up_n e3]
            exact r4
    · have := smN_up (f := f) (c := a) (v := f c + sln R s) (nn R 0) ha
      omega
theorem rt167 {k42 : Nat → Int32 → Int32 → Dt → Option Dt} {k50 : Nat → Int32 → Int32 → Int32 → Dt → Option Dt} {l0 : Nat} {l1 l2 l3 l5 t0 : Int32} : f_X12_reckonTo_167 N sh k42 k50 l0 l1 l2 l3 l5 t0 d = k50 l0 l1 (if l2 = 0 ∧ l5 = 0 ∧ t0 = 0 then 0 else 1) (l3 + 1) d := by
  unfold f_X12_reckonTo_167 f_X12_reckonTo_183 f_X12_reckonTo_188 f_X12_reckonTo_189
  by_cases h1 : l2 = 0
  · by_cases h2 : l5 = 0
    · by_cases h3 : t0 = 0
      · rw [if_neg (fun q => q h1), if_neg (fun q => q h2), if_pos h3, if_pos ⟨h1, h2, h3⟩]
      · rw [if_neg (fun q => q h1), if_neg (fun q => q h2), if_neg h3, if_neg (fun q => h3 q.2.2)]
    · rw [if_neg (fun q => q h1), if_pos h2, if_neg (fun q => h2 q.2.1)]
  · rw [if_pos h1, if_neg (fun q => h1 q.1)]
/-- no STREET below i lessens -/
def FE (R : Nat → Int32) (f : Nat → Nat) (i : Nat) : Prop := ∀ s a c, s < i → a < nn R 0 → c < nn R 0 → edge R s a c → f a ≤ sln R s + f c
theorem reck_pass {k42 : Nat → Int32 → Int32 → Dt → Option Dt} {Q : Dt → Prop} {f0 : Nat → Nat} (hK : KS sh z) (hN : WN R) (hW : WS R) (hA : AG (d0.1 (z + 243)) R) (hb : b < nn R 0)
    (hk : ∀ (v : Int32) (d' : Dt) (f' : Nat → Nat), RX d' z R b f' → MWb z b d0 d' → ((v = 0 ∧ smN f' (nn R 0) = smN f0 (nn R 0) ∧ FE R f' (nn R 1)) ∨ (v = 1 ∧ smN f' (nn R 0) < smN f0 (nn R 0))) → Rn (k42 (z + 242) (nI b) v d') Q) :
    ∀ (m i fu : Nat) (d : Dt) (f : Nat → Nat) (v : Int32), i + m = nn R 1 → m < fu → RX d z R b f → MWb z b d0 d → ((v = 0 ∧ smN f (nn R 0) = smN f0 (nn R 0) ∧ FE R f i) ∨ (v = 1 ∧ smN f (nn R 0) < smN f0 (nn R 0))) → Rn (f_X12_reckonTo_50 N sh k42 fu (z + 242) (nI b) v (nI i) d) Q
  | 0, i, fu, d, f, v, hi, hf, hX, hM, hv => by
    obtain ⟨fu, rfl⟩ : ∃ q, fu = q + 1 := ⟨fu - 1, by omega⟩
    show Rn (g_X12_reckonTo_50 N sh k42 (f_X12_reckonTo_50 N sh k42 fu) (z + 242) (nI b) v (nI i) d) Q
    have n1 := hN.2.1
    unfold g_X12_reckonTo_50
    refine rdg hK (hM.ag hA) 1 rfl (by decide) ?_
    rw [n1.1]
    have e : i = nn R 1 := by omega
    refine rn_t ((nI_leI (by omega) (by omega)).mpr (by omega)) ?_
    unfold f_X12_reckonTo_195
    refine hk v d f hX hM ?_
    rcases hv with hv | hv
    · exact Or.inl ⟨hv.1, hv.2.1, e ▸ hv.2.2⟩
    · exact Or.inr hv
  | m + 1, i, fu, d, f, v, hi, hf, hX, hM, hv => by
    obtain ⟨fu, rfl⟩ : ∃ q, fu = q + 1 := ⟨fu - 1, by omega⟩
    have ih := reck_pass hK hN hW hA hb hk m (i + 1) fu
    show Rn (g_X12_reckonTo_50 N sh k42 (f_X12_reckonTo_50 N sh k42 fu) (z + 242) (nI b) v (nI i) d) Q
    have n0 := hN.1.2
    have n1 := hN.2.1
    have his : i < nn R 1 := by omega
    have hAd := hM.ag hA
    unfold g_X12_reckonTo_50
    refine rdg hK hAd 1 rfl (by decide) ?_
    rw [n1.1]
    refine rn_f (nI_ge his (by omega)) ?_
    refine rn_eq (m_isOpen hK hAd (by omega)) ?_
    obtain ⟨⟨ea, eb, ea2, eb2, hne, e7, e8⟩, ⟨e6, hl1, hl2⟩, e5, e4, -⟩ := hW i his
    rcases e4 with e4 | e4
    · rw [if_pos e4]
      refine rn_f (by decide) ?_
      refine rn_eq (m_st hK) ?_
      refine rdg hK hAd (16 + 9 * i + 7) (ix_st i 7) (by omega) ?_
      refine rdg hK hAd (16 + 9 * i + 8) (ix_st i 8) (by omega) ?_
      refine rdg hK hAd (16 + 9 * i + 6) (ix_st i 6) (by omega) ?_
      rw [e7, e8, e6]
      have ed1 : edge R i ea eb := ⟨his, e4, Or.inl ⟨e7, e8⟩⟩
      refine rn_bind (m_lessens hK hN hW hb ea2 eb2 ed1 hX) (fun r hr => ?_)
      obtain ⟨f1, X1, M1, L1⟩ := hr
      have hM1 := hM.tr M1
      have hA1 := hM1.ag hA
      refine rdg hK hA1 (16 + 9 * i + 5) (ix_st i 5) (by omega) ?_
      rcases e5 with e5 | e5
      · refine rn_f (fun q => q e5) ?_
        refine rdg hK hA1 (16 + 9 * i + 8) (ix_st i 8) (by omega) ?_
        refine rdg hK hA1 (16 + 9 * i + 7) (ix_st i 7) (by omega) ?_
        refine rdg hK hA1 (16 + 9 * i + 6) (ix_st i 6) (by omega) ?_
        rw [e7, e8, e6]
        have ed2 : edge R i eb ea := ⟨his, e4, Or.inr ⟨e5, e8, e7⟩⟩
        refine rn_bind (m_lessens hK hN hW hb eb2 ea2 ed2 X1) (fun r2 hr2 => ?_)
        obtain ⟨f2, X2, M2, L2⟩ := hr2
        have hM2 := hM1.tr M2
        have fin : ∀ t : Int32, (t = 0 ↔ r2.1 = 0) → Rn (f_X12_reckonTo_50 N sh k42 fu (z + 242) (nI b) (if v = 0 ∧ r.1 = 0 ∧ t = 0 then 0 else 1) (nI i + 1) r2.2) Q := fun t ht => by
          rw [nI_1]
          refine ih r2.2 f2 _ (by omega) (by omega) X2 hM2 ?_
          by_cases hz : v = 0 ∧ r.1 = 0 ∧ t = 0
          · rw [if_pos hz]
            refine Or.inl ⟨rfl, ?_⟩
            rcases hv with hv | hv
            · rcases L1 with L1 | L1
              · rcases L2 with L2 | L2
                · refine ⟨by rw [L2.2.1, L1.2.1]; exact hv.2.1, ?_⟩
                  rw [L2.2.1, L1.2.1]
                  have l2 := L2.2.2
                  rw [L1.2.1] at l2
                  intro s a c hs ha hc he
                  by_cases es : s < i
                  · exact hv.2.2 s a c es ha hc he
                  · have es : s = i := by omega
                    subst es
                    rcases he.2.2 with ⟨q1, q2⟩ | ⟨_, q1, q2⟩
                    · rw [e7] at q1
                      rw [e8] at q2
                      rw [← nI_inj q1 (by omega) (by omega), ← nI_inj q2 (by omega) (by omega)]
                      exact L1.2.2
                    · rw [e8] at q1
                      rw [e7] at q2
                      rw [← nI_inj q1 (by omega) (by omega), ← nI_inj q2 (by omega) (by omega)]
                      exact l2
                · exact absurd (ht.mp hz.2.2) (by rw [L2.1]; decide)
              · exact absurd hz.2.1 (by rw [L1.1]; decide)
            · exact absurd hz.1 (by rw [hv.1]; decide)
          · rw [if_neg hz]
            refine Or.inr ⟨rfl, ?_⟩
            rcases hv with hv | hv
            · rcases L1 with L1 | L1
              · rcases L2 with L2 | L2
                · exact absurd ⟨hv.1, L1.1, ht.mpr L2.1⟩ hz
                · have := L2.2
                  rw [L1.2.1] at this
                  omega
              · rcases L2 with L2 | L2
                · rw [L2.2.1]
                  omega
                · have := L2.2
                  have := L1.2
                  omega
            · have h1 : smN f1 (nn R 0) ≤ smN f (nn R 0) := by
                rcases L1 with L1 | L1
                · rw [L1.2.1]
                  exact Nat.le_refl _
                · omega
              have h2 : smN f2 (nn R 0) ≤ smN f1 (nn R 0) := by
                rcases L2 with L2 | L2
                · rw [L2.2.1]
                  exact Nat.le_refl _
                · omega
              omega
        refine rn_ite (fun h2 => ?_) (fun h2 => ?_)
        · unfold f_X12_reckonTo_166
          rw [rt167]
          exact fin 0 ⟨fun _ => h2, fun _ => rfl⟩
        · rw [rt167]
          exact fin 1 ⟨fun q => absurd q (by decide), fun q => absurd q h2⟩
      · refine rn_t (by rw [e5]; decide) ?_
        unfold f_X12_reckonTo_166
        rw [rt167, nI_1]
        refine ih r.2 f1 _ (by omega) (by omega) X1 hM1 ?_
        by_cases hz : v = 0 ∧ r.1 = 0 ∧ (0 : Int32) = 0
        · rw [if_pos hz]
          refine Or.inl ⟨rfl, ?_⟩
          rcases hv with hv | hv
          · rcases L1 with L1 | L1
            · refine ⟨by rw [L1.2.1]; exact hv.2.1, ?_⟩
              rw [L1.2.1]
              intro s a c hs ha hc he
              by_cases es : s < i
              · exact hv.2.2 s a c es ha hc he
              · have es : s = i := by omega
                subst es
                rcases he.2.2 with ⟨q1, q2⟩ | ⟨q0, _, _⟩
                · rw [e7] at q1
                  rw [e8] at q2
                  rw [← nI_inj q1 (by omega) (by omega), ← nI_inj q2 (by omega) (by omega)]
                  exact L1.2.2
                · rw [e5] at q0
                  exact absurd q0 (by decide)
            · exact absurd hz.2.1 (by rw [L1.1]; decide)
          · exact absurd hz.1 (by rw [hv.1]; decide)
        · rw [if_neg hz]
          refine Or.inr ⟨rfl, ?_⟩
          rcases hv with hv | hv
          · rcases L1 with L1 | L1
            · exact absurd ⟨hv.1, L1.1, rfl⟩ hz
            · omega
          · rcases L1 with L1 | L1
            · rw [L1.2.1]
              exact hv.2
            · omega
    · refine rn_t (if_neg (by rw [e4]; decide)) ?_
      unfold f_X12_reckonTo_189
      rw [nI_1]
      refine ih d f v (by omega) (by omega) hX hM ?_
      rcases hv with hv | hv
      · refine Or.inl ⟨hv.1, hv.2.1, fun s a c hs ha hc he => ?_⟩
        by_cases es : s < i
        · exact hv.2.2 s a c es ha hc he
        · have es : s = i := by omega
          subst es
          have := he.2.1
          rw [e4] at this
          exact absurd this (by decide)
      · exact Or.inr hv
end RK
/-! 62.reck2.lean.txt -/
section RK2
variable {β : Type} {Q : Dt → Prop} {sh : Sh} {d d0 : Dt} {z : Nat} {R K : Nat → Int32} {u : Bool} {N b : Nat} {f : Nat → Nat}
theorem reck_while (hN1 : 151 ≤ N) (hK : KS sh z) (hN : WN R) (hW : WS R) (hA : AG (d0.1 (z + 243)) R) (hb : b < nn R 0) (hk : ∀ (d' : Dt) (f' : Nat → Nat), RX d' z R b f' → MWb z b d0 d' → FE R f' (nn R 1) → Q d') : ∀ (B fu : Nat) (d : Dt) (f : Nat → Nat) (v : Int32), smN f (nn R 0) + (if v = 0 then 0 else 1) < B → B ≤ fu → RX d z R b f → MWb z b d0 d → ((v = 0 ∧ FE R f (nn R 1)) ∨ v = 1) → Rn (f_X12_reckonTo_42 N sh fu (z + 242) (nI b) v d) Q
  | 0, fu, d, f, v, h1, h2, hX, hM, hv => absurd h1 (Nat.not_lt_zero _)
  | B + 1, fu, d, f, v, h1, h2, hX, hM, hv => by
    obtain ⟨fu, rfl⟩ : ∃ q, fu = q + 1 := ⟨fu - 1, by omega⟩
    show Rn (g_X12_reckonTo_42 N sh (f_X12_reckonTo_42 N sh fu) (z + 242) (nI b) v d) Q
    have n1 := hN.2.1.2
    unfold g_X12_reckonTo_42
    rcases hv with hv | hv
    · refine rn_t hv.1 ?_
      exact rn_some (hk d f hX hM hv.2)
    · subst hv
      refine rn_f (by decide) ?_
      rw [if_neg (by decide)] at h1
      refine reck_pass (f0 := f) hK hN hW hA hb (fun v d' f' X' M' q => ?_) (nn R 1) 0 N d f 0 (by omega) (by omega) hX hM (Or.inl ⟨rfl, rfl, fun s a c hs => absurd hs (Nat.not_lt_zero s)⟩)
      rcases q with q | q
      · refine reck_while hN1 hK hN hW hA hb hk B fu d' f' v ?_ (by omega) X' M' (Or.inl ⟨q.1, q.2.2⟩)
        rw [if_pos q.1, q.2.1]
        omega
      · refine reck_while hN1 hK hN hW hA hb hk B fu d' f' v ?_ (by omega) X' M' (Or.inr q.1)
        rw [if_neg (by rw [q.1]; decide)]
        omega
theorem reck_init (hNf : 2 ^ 40 ≤ N) (hK : KS sh z) (hN : WN R) (hW : WS R) (hA : AG (d0.1 (z + 243)) R) (hb : b < nn R 0) (hk : ∀ (d' : Dt) (f' : Nat → Nat), RX d' z R b f' → MWb z b d0 d' → FE R f' (nn R 1) → Q d') : ∀ (m i fu : Nat) (d : Dt), i + m = nn R 0 → m < fu → MWb z b d0 d → (∀ a, a < i → d.1 (z + 247) (60 * a + b) = nI (if a = b then 0 else 2 ^ 28)) → Rn (f_X12_reckonTo_2 N sh fu (z + 242) (nI b) (nI i) d) Q
  | 0, i, fu, d, hi, hf, hM, hv => by
    obtain ⟨fu, rfl⟩ : ∃ q, fu = q + 1 := ⟨fu - 1, by omega⟩
    show Rn (g_X12_reckonTo_2 N sh (f_X12_reckonTo_2 N sh fu) (z + 242) (nI b) (nI i) d) Q
    have n0 := hN.1
    unfold g_X12_reckonTo_2
    refine rdg hK (hM.ag hA) 0 rfl (by decide) ?_
    rw [n0.1]
    refine rn_t ((nI_leI (by omega) (by omega)).mpr (by omega)) ?_
    unfold f_X12_reckonTo_40
    have hs : ∀ n, n ≤ 60 → smN (fun a => if a = b then 0 else 2 ^ 28) n ≤ 60 * 2 ^ 28 := fun n hn => by
      have q := smN_le (f := fun a => if a = b then 0 else 2 ^ 28) (g := fun _ => 2 ^ 28) n (fun k _ => by
        show (if k = b then 0 else 2 ^ 28) ≤ 2 ^ 28
        split <;> omega)
      rw [smN_const] at q
      exact Nat.le_trans q (Nat.mul_le_mul_right _ hn)
    refine reck_while (by omega) hK hN hW hA hb hk (60 * 2 ^ 28 + 2) N d (fun a => if a = b then 0 else 2 ^ 28) 1 ?_ (by omega) ⟨if_pos rfl, fun a ha => ⟨hv a (by omega), ?_, fun q1 q2 => ?_⟩⟩ hM (Or.inr rfl)
    · have := hs (nn R 0) n0.2
      rw [if_neg (by decide)]
      omega
    · show (if a = b then 0 else 2 ^ 28) ≤ 2 ^ 28
      split <;> omega
    · have q2 : (if a = b then 0 else 2 ^ 28) < 2 ^ 28 := q2
      rw [if_neg q1] at q2
      omega
  | m + 1, i, fu, d, hi, hf, hM, hv => by
    obtain ⟨fu, rfl⟩ : ∃ q, fu = q + 1 := ⟨fu - 1, by omega⟩
    have ih := reck_init hNf hK hN hW hA hb hk m (i + 1) fu
    show Rn (g_X12_reckonTo_2 N sh (f_X12_reckonTo_2 N sh fu) (z + 242) (nI b) (nI i) d) Q
    have n0 := hN.1
    have hF := ks_a hK 247 0 3600 rfl
    unfold g_X12_reckonTo_2
    refine rdg hK (hM.ag hA) 0 rfl (by decide) ?_
    rw [n0.1]
    refine rn_f (nI_ge (by omega) (by omega)) ?_
    refine r_gP hK 242 12 9 247 rfl (by decide) ?_
    have go : ∀ w : Nat, w = (if i = b then 0 else 2 ^ 28) → Rn (f_X12_reckonTo_33 N sh (f_X12_reckonTo_2 N sh fu) (z + 242) (nI b) (nI i) (z + 247) ((60 : Int32) * nI i + nI b) (nI w) d) Q := fun w hw => by
      unfold f_X12_reckonTo_33
      refine rn_eq (q_sI hF (60 * i + b) (ix_far i b) (by omega) (by decide)) ?_
      rw [nI_1]
      refine ih _ (by omega) (by omega) (hM.tr (MWb.w (by omega))) (fun a ha => ?_)
      rw [wI_s]
      by_cases e : a = i
      · subst e
        rw [va_up_s, hw]
      · rw [va_up_n (by omega)]
        exact hv a (by omega)
    refine rn_ite (fun h1 => ?_) (fun h1 => ?_)
    · exact go (2 ^ 28) (by rw [if_neg (fun e => h1 (by rw [e]))])
    · exact go 0 (by rw [if_pos (nI_inj (Decidable.of_not_not h1) (by omega) (by omega))])
theorem m_reckonTo (hNf : 2 ^ 40 ≤ N) (hK : KS sh z) (hN : WN R) (hW : WS R) (hA : AG (d.1 (z + 243)) R) (hb : b < nn R 0) : Rn (f_X12_reckonTo N sh (z + 242) (nI b) d) (fun d' => MWb z b d d' ∧ ∀ a, a < nn R 0 → dOK R 268435456 a b (d'.1 (z + 247) (60 * a + b))) := by
  have n0 := hN.1.2
  unfold f_X12_reckonTo
  refine rn_t (ks_o hK 242 12 rfl) ?_
  refine reck_init (d0 := d) hNf hK hN hW hA hb (fun d' f' X' M' F' => ⟨M', fun a ha => ?_⟩) (nn R 0) 0 N d (by omega) (by omega) MWb.rf (fun a h => absurd h (Nat.not_lt_zero a))
  have q := dst_of (F := 2 ^ 28) hW hN hb X'.1 (fun a ha hab hlt => by
    obtain ⟨s, c, r1, r2, r3, r4⟩ := (X'.2 a ha).2.2 hab hlt
    have := F' s a c r2.1 ha r1 r2
    exact ⟨s, c, r1, r2, by omega⟩) (fun s a c ha hc he _ => F' s a c he.1 ha hc he) (by omega) a ha
  obtain ⟨x1, x2, -⟩ := X'.2 a ha
  rcases Nat.lt_or_ge (f' a) (2 ^ 28) with h | h
  · exact Or.inl ⟨f' a, (q.1 h).1, h, x1⟩
  · refine Or.inr ⟨q.2 h, ?_⟩
    rw [x1, show f' a = 268435456 by omega]
/-- reckon() touches its table and its mark alone -/
def RKF (z : Nat) (d d' : Dt) : Prop := d'.2 = d.2 ∧ (∀ a, a ≠ z + 242 → a ≠ z + 247 → d'.1 a = d.1 a) ∧ ∀ k, k ≠ 10 → d'.1 (z + 242) k = d.1 (z + 242) k
theorem RKF.rf : RKF z d d := ⟨rfl, fun _ _ _ => rfl, fun _ _ => rfl⟩
theorem RKF.mfr {d' : Dt} (h : RKF z d d') : MFR z d d' := ⟨by rw [h.1], by rw [h.1], fun a q => ⟨h.2.1 a (by omega) (by omega), by rw [h.1]⟩⟩
theorem RKF.mw {d1 d2 : Dt} (h : RKF z d d1) (h2 : MWb z b d1 d2) : RKF z d d2 := ⟨h2.1.trans h.1, fun a q1 q2 => (h2.2.1 a q2).trans (h.2.1 a q1 q2), fun k q => by rw [h2.2.1 (z + 242) (by omega)]; exact h.2.2 k q⟩
theorem RKF.ag {d' : Dt} (h : RKF z d d') (hA : AG (d.1 (z + 243)) R) : AG (d'.1 (z + 243)) R := by
  rw [h.2.1 (z + 243) (by omega) (by omega)]
  exact hA
theorem reckon_loop (hNf : 2 ^ 40 ≤ N) (hK : KS sh z) (hN : WN R) (hW : WS R) (hA : AG (d0.1 (z + 243)) R) : ∀ (m i fu : Nat) (d : Dt), i + m = nn R 0 → m < fu → RKF z d0 d → (∀ a b, a < nn R 0 → b < i → dOK R 268435456 a b (d.1 (z + 247) (60 * a + b))) → Rn (f_X12_reckon_9 N sh fu (z + 242) (nI i) d) (fun d' => RKF z d0 d' ∧ d'.1 (z + 242) 10 = 1 ∧ ∀ a b, a < nn R 0 → b < nn R 0 → dOK R 268435456 a b (d'.1 (z + 247) (60 * a + b)))
  | 0, i, fu, d, hi, hf, hM, hv => by
    obtain ⟨fu, rfl⟩ : ∃ q, fu = q + 1 := ⟨fu - 1, by omega⟩
    show Rn (g_X12_reckon_9 N sh (f_X12_reckon_9 N sh fu) (z + 242) (nI i) d) _
    have n0 := hN.1
    unfold g_X12_reckon_9
    refine rdg hK (hM.ag hA) 0 rfl (by decide) ?_
    rw [n0.1]
    refine rn_t ((nI_leI (by omega) (by omega)).mpr (by omega)) ?_
    unfold f_X12_reckon_30
    refine r_pI hK (i := 242) (c := 12) rfl ?_
    refine rn_some ⟨⟨hM.1, fun a q1 q2 => ?_, fun k q => ?_⟩, ?_, fun a b ha hb => ?_⟩
    · rw [wI_n q1]
      exact hM.2.1 a q1 q2
    · rw [wI_s, va_up_n q]
      exact hM.2.2 k q
    · rw [wI_s, va_up_s]
    · rw [wI_n (by omega)]
      exact hv a b ha (by omega)
  | m + 1, i, fu, d, hi, hf, hM, hv => by
    obtain ⟨fu, rfl⟩ : ∃ q, fu = q + 1 := ⟨fu - 1, by omega⟩
    have ih := reckon_loop hNf hK hN hW hA m (i + 1) fu
    show Rn (g_X12_reckon_9 N sh (f_X12_reckon_9 N sh fu) (z + 242) (nI i) d) _
    have n0 := hN.1
    unfold g_X12_reckon_9
    refine rdg hK (hM.ag hA) 0 rfl (by decide) ?_
    rw [n0.1]
    refine rn_f (nI_ge (by omega) (by omega)) ?_
    refine rn_bind (m_reckonTo hNf hK hN hW (hM.ag hA) (b := i) (by omega)) (fun d1 hd => ?_)
    rw [nI_1]
    refine ih d1 (by omega) (by omega) (hM.mw hd.1) (fun a b ha hb => ?_)
    by_cases e : b = i
    · subst e
      exact hd.2 a ha
    · rw [hd.1.2.2 (60 * a + b) (fun a' ha' => by omega)]
      exact hv a b ha (by omega)
theorem m_reckon (hNf : 2 ^ 40 ≤ N) (hK : KS sh z) (h : RI d z R K u) (hR : WF R) : Rn (f_X12_reckon N sh (z + 242) d) (fun d' => RKF z d d' ∧ RI d' z R K u ∧ ∀ a b, a < nn R 0 → b < nn R 0 → dOK R 268435456 a b (d'.1 (z + 247) (60 * a + b))) := by
  have n0 := hR.1.1.2
  obtain ⟨h1, h2, h3, ⟨g, h4, h5⟩, h6⟩ := id h
  unfold f_X12_reckon
  refine rn_t (ks_o hK 242 12 rfl) ?_
  refine r_gI hK (i := 242) (c := 12) rfl ?_
  rcases h6 with h6 | h6
  · refine rn_f (fun q => q h6) ?_
    refine rn_mono (reckon_loop (d0 := d) hNf hK hR.1 hR.2.2.1 h1 (nn R 0) 0 N d (by omega) (by omega) RKF.rf (fun a b _ hb => absurd hb (Nat.not_lt_zero b))) (fun d' hd => ?_)
    obtain ⟨r1, r2, r3⟩ := hd
    refine ⟨r1, ⟨r1.ag h1, ?_, ?_, ⟨g, h4, ?_⟩, Or.inr ⟨r2, r3⟩⟩, r3⟩
    · rw [r1.2.1 (z + 244) (by omega) (by omega)]
      exact h2
    · rw [r1.2.2 2 (by decide)]
      exact h3
    · rw [r1.2.2 8 (by decide)]
      exact h5
  · refine rn_t (by rw [h6.1]; decide) ?_
    exact rn_some ⟨RKF.rf, h, h6.2⟩
end RK2
/-! 63.onto.lean.txt -/
/-! the next STREET of THE WAY to b -/
def tight (R : Nat → Int32) (b u s c : Nat) : Prop := c < nn R 0 ∧ edge R s u c ∧ ∃ n m, dst R u b n ∧ dst R c b m ∧ n = sln R s + m
def nxS (R : Nat → Int32) (b u s c : Nat) : Prop := tight R b u s c ∧ ∀ s' c', tight R b u s' c' → c < c' ∨ (c = c' ∧ s ≤ s')
noncomputable def nxt (R : Nat → Int32) (b u : Nat) : Nat × Nat := Classical.epsilon (fun q : Nat × Nat => nxS R b u q.1 q.2)
/-- THE WAY from u to b, its STREETS -/
noncomputable def wayL (R : Nat → Int32) (b : Nat) : Nat → Nat → List Nat
  | 0, _ => []
  | k + 1, u => if u = b then [] else (nxt R b u).1 :: wayL R b k (nxt R b u).2
/-- from u THE WAY comes to b in k STREETS or less -/
def rk (R : Nat → Int32) (b : Nat) : Nat → Nat → Prop
  | 0, u => u = b
  | k + 1, u => u = b ∨ ((∃ n, dst R u b n) ∧ nxS R b u (nxt R b u).1 (nxt R b u).2 ∧ rk R b k (nxt R b u).2)
theorem least_ex {P : Nat → Prop} : ∀ (B n : Nat), n ≤ B → P n → ∃ m, P m ∧ ∀ k, P k → m ≤ k
  | 0, n, hn, h => ⟨n, h, fun k _ => by omega⟩
  | B + 1, n, hn, h => by
    by_cases q : ∃ k, k < n ∧ P k
    · obtain ⟨k, h1, h2⟩ := q
      exact least_ex B k (by omega) h2
    · exact ⟨n, h, fun k hk => Nat.le_of_not_lt (fun hlt => q ⟨k, hlt, hk⟩)⟩
section NX
variable {β : Type} {Q : β → Prop} {sh : Sh} {d d0 : Dt} {z : Nat} {R K : Nat → Int32} {N b u n : Nat}
theorem nxS_fun {s c s' c' : Nat} (h1 : nxS R b u s c) (h2 : nxS R b u s' c') : s = s' ∧ c = c' := by
  have a1 := h1.2 s' c' h2.1
  have a2 := h2.2 s c h1.1
  omega
theorem tight_ex (h : dst R u b n) (hne : u ≠ b) : ∃ s c, tight R b u s c := by
  obtain ⟨⟨p, hp, hl⟩, hm⟩ := id h
  cases p with
  | nil => exact absurd hp hne
  | cons s p =>
    obtain ⟨c, h1, h2, h3⟩ := hp
    refine ⟨s, c, h1, h2, n, wln R p, h, ⟨⟨p, h3, rfl⟩, fun q hq => ?_⟩, hl.symm⟩
    have := hm (s :: q) ⟨c, h1, h2, hq⟩
    have e : wln R (s :: q) = sln R s + wln R q := rfl
    have e2 : wln R (s :: p) = sln R s + wln R p := rfl
    omega
theorem nxS_ex (h : dst R u b n) (hne : u ≠ b) : ∃ s c, nxS R b u s c := by
  obtain ⟨s, c, ht⟩ := tight_ex h hne
  obtain ⟨c0, ⟨s0, h0⟩, hc⟩ := least_ex (P := fun c => ∃ s, tight R b u s c) c c (Nat.le_refl _) ⟨s, ht⟩
  obtain ⟨s1, h1, hs⟩ := least_ex (P := fun s => tight R b u s c0) s0 s0 (Nat.le_refl _) h0
  refine ⟨s1, c0, h1, fun s' c' h' => ?_⟩
  have q1 := hc c' ⟨s', h'⟩
  by_cases e : c0 = c'
  · subst e
    exact Or.inr ⟨rfl, hs s' h'⟩
  · exact Or.inl (by omega)
theorem nxt_eq {s c : Nat} (h : nxS R b u s c) : nxt R b u = (s, c) := by
  have q := Classical.epsilon_spec (p := fun q : Nat × Nat => nxS R b u q.1 q.2) ⟨(s, c), h⟩
  have e := nxS_fun q h
  exact Prod.ext e.1 e.2
theorem nxt_ok (h : dst R u b n) (hne : u ≠ b) : nxS R b u (nxt R b u).1 (nxt R b u).2 := by
  obtain ⟨s, c, q⟩ := nxS_ex h hne
  rw [nxt_eq q]
  exact q
theorem dst_b : dst R b b 0 := ⟨⟨[], rfl, rfl⟩, fun _ _ => Nat.zero_le _⟩
theorem rk_cnt {g : Nat → Nat} (hW : WS R) (hg : ∀ a m, dst R a b m → g a = m) : ∀ (k u n : Nat), dst R u b n → cnt g n (nn R 0) ≤ k → rk R b k u
  | 0, u, n, hd, hk => by
    by_cases e : u = b
    · exact e
    · obtain ⟨s, c, h1, h2, n', m, h3, h4, h5⟩ := tight_ex hd e
      have := dst_fun hd h3
      have := edge_sln hW h2
      have := cnt_lt (f := g) (t := m) (t' := n) (c := c) (by omega) (by rw [hg c m h4]; exact Nat.le_refl _) (by rw [hg c m h4]; omega) (nn R 0) h1
      omega
  | k + 1, u, n, hd, hk => by
    by_cases e : u = b
    · exact Or.inl e
    · have q := nxt_ok hd e
      obtain ⟨h1, h2, n', m, h3, h4, h5⟩ := q.1
      have := dst_fun hd h3
      have := edge_sln hW h2
      have := cnt_lt (f := g) (t := m) (t' := n) (c := (nxt R b u).2) (by omega) (by rw [hg _ m h4]; exact Nat.le_refl _) (by rw [hg _ m h4]; omega) (nn R 0) h1
      exact Or.inr ⟨⟨n, hd⟩, q, rk_cnt hW hg k _ m h4 (by omega)⟩
theorem rk_60 (hW : WS R) (hN : WN R) (hd : dst R u b n) : rk R b 60 u := by
  refine rk_cnt (g := fun a => Classical.epsilon (fun m => dst R a b m)) hW (fun a m h => ?_) 60 u n hd (Nat.le_trans (cnt_le _) hN.1.2)
  exact dst_fun (Classical.epsilon_spec (p := fun m => dst R a b m) ⟨m, h⟩) h
theorem wayL_more : ∀ (k j u : Nat), rk R b k u → k ≤ j → wayL R b j u = wayL R b k u
  | 0, 0, u, h, hj => rfl
  | 0, j + 1, u, h, hj => if_pos h
  | k + 1, 0, u, h, hj => absurd hj (Nat.not_succ_le_zero k)
  | k + 1, j + 1, u, h, hj => by
    show (if u = b then [] else (nxt R b u).1 :: wayL R b j (nxt R b u).2) = (if u = b then [] else (nxt R b u).1 :: wayL R b k (nxt R b u).2)
    by_cases e : u = b
    · rw [if_pos e, if_pos e]
    · rw [if_neg e, if_neg e, wayL_more k j _ (h.resolve_left e).2.2 (by omega)]
/-- where a STREET leads from u -/
theorem ldv_edge {s : Nat} (hW : WS R) (hN : WN R) (hs : s < nn R 1) (ho : R (16 + 9 * s + 4) = 0) (hu : u < nn R 0) : (∃ c, c < nn R 0 ∧ ldv R s (nI u) = nI c ∧ edge R s u c ∧ ∀ c', c' < 2 ^ 31 → edge R s u c' → c' = c) ∨ (ldv R s (nI u) = -1 ∧ ∀ c', ¬ edge R s u c') := by
  have n0 := hN.1.2
  obtain ⟨⟨ea, eb, ea2, eb2, hne, e7, e8⟩, -, e5, -, -⟩ := hW s hs
  unfold ldv
  rw [e7, e8]
  by_cases h1 : nI ea = nI u
  · rw [if_pos h1]
    have q := nI_inj h1 (by omega) (by omega)
    subst q
    refine Or.inl ⟨eb, eb2, rfl, ⟨hs, ho, Or.inl ⟨e7, e8⟩⟩, fun c' hc' he => ?_⟩
    rcases he.2.2 with ⟨_, q2⟩ | ⟨_, q1, _⟩
    · rw [e8] at q2
      exact (nI_inj q2 (by omega) hc').symm
    · rw [e8] at q1
      exact absurd (nI_inj q1 (by omega) (by omega)).symm hne
  · rw [if_neg h1]
    by_cases h2 : nI eb = nI u ∧ R (16 + 9 * s + 5) = 0
    · rw [if_pos h2]
      have q := nI_inj h2.1 (by omega) (by omega)
      subst q
      refine Or.inl ⟨ea, ea2, rfl, ⟨hs, ho, Or.inr ⟨h2.2, e8, e7⟩⟩, fun c' hc' he => ?_⟩
      rcases he.2.2 with ⟨q1, _⟩ | ⟨_, _, q2⟩
      · rw [e7] at q1
        exact absurd q1 h1
      · rw [e7] at q2
        exact (nI_inj q2 (by omega) hc').symm
    · rw [if_neg h2]
      refine Or.inr ⟨rfl, fun c' he => ?_⟩
      rcases he.2.2 with ⟨q1, _⟩ | ⟨q0, q1, _⟩
      · rw [e7] at q1
        exact h1 q1
      · rw [e8] at q1
        exact h2 ⟨q1, q0⟩
theorem nI_m1 {c : Nat} (hc : c < 2 ^ 31) : nI c ≠ (-1 : Int32) := fun e => nI_pos hc (by rw [e]; decide)
theorem ti_iff {s c : Nat} {x y : Int32} (hW : WS R) (hc : c < nn R 0) (he : edge R s u c) (hd : dst R u b n) (hx : dOK R 268435456 u b x) (hy : dOK R 268435456 c b y) : nI (sln R s) + y = x ↔ tight R b u s c := by
  have hl := edge_sln hW he
  rcases hx with ⟨n', h1, h2, rfl⟩ | ⟨h1, _⟩
  · have en := dst_fun hd h1
    subst en
    rcases hy with ⟨m, h3, h4, rfl⟩ | ⟨h3, rfl⟩
    · rw [nI_add]
      refine ⟨fun q => ⟨hc, he, n, m, h1, h3, (nI_inj q (by omega) (by omega)).symm⟩, fun q => ?_⟩
      obtain ⟨_, _, n', m', r1, r2, r3⟩ := q
      rw [dst_fun h1 r1, dst_fun h3 r2, r3]
    · rw [nI_add]
      refine ⟨fun q => ?_, fun q => ?_⟩
      · have := nI_inj q (by omega) (by omega)
        omega
      · obtain ⟨_, _, n', m', r1, ⟨⟨p, r2, _⟩, _⟩, r3⟩ := q
        exact absurd r2 (h3 p)
  · obtain ⟨⟨p, q, _⟩, _⟩ := hd
    exact absurd q (h1 p)
/-- the best STREET of those below i -/
def OB (R : Nat → Int32) (b u i : Nat) (l3 l4 : Int32) : Prop := (l3 = -1 ∧ l4 = 60 ∧ ∀ s c, s < i → ¬ tight R b u s c) ∨ ∃ s0 c0, l3 = nI s0 ∧ l4 = nI c0 ∧ s0 < i ∧ tight R b u s0 c0 ∧ ∀ s c, s < i → tight R b u s c → c0 < c ∨ (c0 = c ∧ s0 ≤ s)
theorem OB.skip {i : Nat} {l3 l4 : Int32} (h : OB R b u i l3 l4) (hs : ∀ c, ¬ tight R b u i c) : OB R b u (i + 1) l3 l4 := by
  rcases h with ⟨h1, h2, h3⟩ | ⟨s0, c0, h1, h2, h3, h4, h5⟩
  · refine Or.inl ⟨h1, h2, fun s c hi => ?_⟩
    by_cases e : s = i
    · rw [e]
      exact hs c
    · exact h3 s c (by omega)
  · refine Or.inr ⟨s0, c0, h1, h2, by omega, h4, fun s c hi ht => ?_⟩
    by_cases e : s = i
    · rw [e] at ht
      exact absurd ht (hs c)
    · exact h5 s c (by omega) ht
theorem onTo_loop (hK : KS sh z) (hN : WN R) (hW : WS R) (hA : AG (d.1 (z + 243)) R) (hfar : ∀ a b, a < nn R 0 → b < nn R 0 → dOK R 268435456 a b (d.1 (z + 247) (60 * a + b))) (hu : u < nn R 0) (hb : b < nn R 0) (hd : dst R u b n) : ∀ (m i fu : Nat) (l3 l4 : Int32), i + m = nn R 1 → m < fu → OB R b u i l3 l4 → Rn (f_X12_onTo_9 N sh d fu (z + 242) (nI u) (nI b) l3 l4 (nI i)) (fun r => ∃ l4, OB R b u (nn R 1) r l4)
  | 0, i, fu, l3, l4, hi, hf, hO => by
    obtain ⟨fu, rfl⟩ : ∃ q, fu = q + 1 := ⟨fu - 1, by omega⟩
    show Rn (g_X12_onTo_9 N sh (f_X12_onTo_9 N sh d fu) (z + 242) (nI u) (nI b) l3 l4 (nI i) d) _
    have n1 := hN.2.1
    unfold g_X12_onTo_9
    refine rdg hK hA 1 rfl (by decide) ?_
    rw [n1.1]
    refine rn_t ((nI_leI (by omega) (by omega)).mpr (by omega)) ?_
    have e : i = nn R 1 := by omega
    subst e
    exact rn_some ⟨l4, hO⟩
  | m + 1, i, fu, l3, l4, hi, hf, hO => by
    obtain ⟨fu, rfl⟩ : ∃ q, fu = q + 1 := ⟨fu - 1, by omega⟩
    have ih := onTo_loop hK hN hW hA hfar hu hb hd m (i + 1) fu
    show Rn (g_X12_onTo_9 N sh (f_X12_onTo_9 N sh d fu) (z + 242) (nI u) (nI b) l3 l4 (nI i) d) _
    have n0 := hN.1.2
    have n1 := hN.2.1
    have his : i < nn R 1 := by omega
    have hF := ks_a hK 247 0 3600 rfl
    unfold g_X12_onTo_9
    refine rdg hK hA 1 rfl (by decide) ?_
    rw [n1.1]
    refine rn_f (nI_ge his (by omega)) ?_
    refine rn_eq (m_isOpen hK hA (by omega)) ?_
    have skip : (∀ c, ¬ tight R b u i c) → Rn (f_X12_onTo_40 N sh (f_X12_onTo_9 N sh d fu) (z + 242) (nI u) (nI b) l3 l4 (nI i) (-1) d) (fun r => ∃ l4, OB R b u (nn R 1) r l4) := fun hs => by
      unfold f_X12_onTo_40
      refine rn_t rfl ?_
      unfold f_X12_onTo_103
      rw [nI_1]
      exact ih l3 l4 (by omega) (by omega) (hO.skip hs)
    by_cases ho : R (16 + 9 * i + 4) = 0
    · rw [if_pos ho]
      refine rn_f (by decide) ?_
      refine rn_eq (m_leads hK hA (by omega)) ?_
      rcases ldv_edge hW hN his ho hu with ⟨c, hc, e1, e2, e3⟩ | ⟨e1, e2⟩
      · rw [e1]
        unfold f_X12_onTo_40 f_X12_onTo_103
        refine rn_f (nI_m1 (by omega)) ?_
        rw [nI_1]
        refine rn_ite (fun hle => ?_) (fun hle => ?_)
        · refine ih l3 l4 (by omega) (by omega) ?_
          rcases hO with ⟨h1, h2, h3⟩ | ⟨s0, c0, h1, h2, h3, h4, h5⟩
          · rw [h2] at hle
            have := (nI_leI (a := 60) (b := c) (by omega) (by omega)).mp hle
            omega
          · refine Or.inr ⟨s0, c0, h1, h2, by omega, h4, fun s c' hs ht => ?_⟩
            by_cases es : s = i
            · subst es
              have ec := e3 c' (by have := ht.1; omega) ht.2.1
              subst ec
              rw [h2] at hle
              have hc0 := h4.1
              have := (nI_leI (by omega) (by omega)).mp hle
              omega
            · exact h5 s c' (by omega) ht
        · refine rds hK hA 6 (by omega) (by decide) rfl ?_
          rw [(hW i his).2.1.1]
          refine r_gP hK 242 12 9 247 rfl (by decide) ?_
          refine rn_eq (q_aT hF (60 * c + b) (ix_far c b) (by omega) (by decide)) ?_
          refine r_gP hK 242 12 9 247 rfl (by decide) ?_
          refine rn_eq (q_aT hF (60 * u + b) (ix_far u b) (by omega) (by decide)) ?_
          have hti := ti_iff hW hc e2 hd (hfar u b hu hb) (hfar c b hc hb)
          refine rn_ite (fun hq => ?_) (fun hq => ?_)
          · refine ih l3 l4 (by omega) (by omega) (hO.skip (fun c' ht => ?_))
            have ec := e3 c' (by have := ht.1; omega) ht.2.1
            subst ec
            exact hq (hti.mpr ht)
          · have ht := hti.mp (Decidable.of_not_not hq)
            refine ih (nI i) (nI c) (by omega) (by omega) (Or.inr ⟨i, c, rfl, rfl, by omega, ht, fun s c' hs ht' => ?_⟩)
            by_cases es : s = i
            · subst es
              have ec := e3 c' (by have := ht'.1; omega) ht'.2.1
              omega
            · rcases hO with ⟨h1, h2, h3⟩ | ⟨s0, c0, h1, h2, h3, h4, h5⟩
              · exact absurd ht' (h3 s c' (by omega))
              · have q := h5 s c' (by omega) ht'
                rw [h2] at hle
                have hc0 := h4.1
                have : ¬ c0 ≤ c := fun q => hle ((nI_leI (by omega) (by omega)).mpr q)
                omega
      · rw [e1]
        exact skip (fun c ht => e2 c ht.2.1)
    · rw [if_neg ho]
      refine rn_t rfl ?_
      exact skip (fun c ht => ho ht.2.1.2.1)
theorem m_onTo (hN1 : 151 ≤ N) (hK : KS sh z) (hN : WN R) (hW : WS R) (hA : AG (d.1 (z + 243)) R) (hfar : ∀ a b, a < nn R 0 → b < nn R 0 → dOK R 268435456 a b (d.1 (z + 247) (60 * a + b))) (hu : u < nn R 0) (hb : b < nn R 0) (hd : dst R u b n) (hne : u ≠ b) : f_X12_onTo N sh (z + 242) (nI u) (nI b) d = some (nI (nxt R b u).1) := by
  have n1 := hN.2.1.2
  refine rn_val ?_
  unfold f_X12_onTo
  refine rn_t (ks_o hK 242 12 rfl) ?_
  refine rn_mono (onTo_loop hK hN hW hA hfar hu hb hd (nn R 1) 0 N (-1) 60 (by omega) (by omega) (Or.inl ⟨rfl, rfl, fun s c hs => absurd hs (Nat.not_lt_zero s)⟩)) (fun r hr => ?_)
  obtain ⟨l4, hO⟩ := hr
  have q := nxt_ok hd hne
  rcases hO with ⟨h1, h2, h3⟩ | ⟨s0, c0, h1, h2, h3, h4, h5⟩
  · exact absurd q.1 (h3 _ _ q.1.2.1.1)
  · have := nxt_eq (R := R) (b := b) (u := u) (s := s0) (c := c0) ⟨h4, fun s' c' h' => h5 s' c' h'.2.1.1 h'⟩
    rw [this]
    exact h1
/-- leads() behind onTo() -/
theorem nxt_leads (hW : WS R) (hN : WN R) (hu : u < nn R 0) (h : nxS R b u (nxt R b u).1 (nxt R b u).2) : ldv R (nxt R b u).1 (nI u) = nI (nxt R b u).2 := by
  have n0 := hN.1.2
  obtain ⟨h1, h2, -⟩ := h.1
  rcases ldv_edge hW hN h2.1 h2.2.1 hu with ⟨c, hc, e1, e2, e3⟩ | ⟨e1, e2⟩
  · rw [e1, e3 _ (by omega) h2]
  · exact absurd h2 (e2 _)
end NX
/-! 64.bits.lean.txt -/
/-! CROSSINGS as bits of a long -/
section BT
variable {x y : Int64} {i j u v : Nat} {N : Nat} {sh : Sh} {d : Dt}
def bt (u : Nat) : Int64 := (1 : Int64) <<< ((nI u).toInt64 &&& 63)
theorem bit_or : bit (x ||| y) v = (bit x v || bit y v) := BitVec.getLsbD_or
theorem bit_and : bit (x &&& y) v = (bit x v && bit y v) := BitVec.getLsbD_and
theorem bit_xor : bit (x ^^^ y) v = (bit x v ^^ bit y v) := BitVec.getLsbD_xor
theorem bit_m1 (hv : v < 64) : bit (-1) v = true := by
  show BitVec.getLsbD (-1 : Int64).toBitVec v = true
  rw [show (-1 : Int64).toBitVec = BitVec.allOnes 64 by decide, BitVec.getLsbD_allOnes]
  exact decide_eq_true hv
theorem bit_not (hv : v < 64) : bit (x ^^^ (-1)) v = !(bit x v) := by
  rw [bit_xor, bit_m1 hv]
  cases bit x v <;> rfl
theorem bit_0 : bit 0 v = false := by
  show BitVec.getLsbD (0 : Int64).toBitVec v = false
  rw [show (0 : Int64).toBitVec = 0#64 from rfl]
  simp
theorem bit_big (h : bit x v = true) : v < 64 := by
  rcases Nat.lt_or_ge v 64 with q | q
  · exact q
  · have : x.toBitVec.getLsbD v = false := BitVec.getLsbD_of_ge x.toBitVec v q
    unfold bit at h
    rw [this] at h
    cases h
set_option maxRecDepth 20000 in
theorem bt_all : ∀ u : Fin 60, (bt u.val).toBitVec = BitVec.ofNat 64 (2 ^ u.val) := by decide +kernel
theorem bt_bv (hu : u < 60) : (bt u).toBitVec = BitVec.ofNat 64 (2 ^ u) := bt_all ⟨u, hu⟩
theorem bit_bt (hu : u < 60) : bit (bt u) v = decide (u = v) := by
  unfold bit
  rw [bt_bv hu, BitVec.getLsbD_ofNat, Nat.testBit_two_pow]
  by_cases e : u = v
  · subst e
    simp
    omega
  · simp [e]
theorem bit_ext (h : ∀ j, j < 64 → bit x j = bit y j) : x = y := by
  have : x.toBitVec = y.toBitVec := BitVec.eq_of_getLsbD_eq (fun i hi => h i hi)
  exact Int64.toBitVec_inj.mp this
theorem bit_ex (h : x ≠ 0) : ∃ i, i < 64 ∧ bit x i = true ∧ ∀ j, j < i → bit x j = false := by
  have q : ∃ i, bit x i = true := by
    by_cases q : ∃ i, bit x i = true
    · exact q
    · refine absurd (bit_ext (fun j hj => ?_)) h
      rw [bit_0]
      cases e : bit x j
      · rfl
      · exact absurd ⟨j, e⟩ q
  obtain ⟨i, hi⟩ := q
  obtain ⟨m, h1, h2⟩ := least_ex (P := fun i => bit x i = true) i i (Nat.le_refl _) hi
  refine ⟨m, bit_big h1, h1, fun j hj => ?_⟩
  cases e : bit x j
  · rfl
  · have := h2 j e
    omega
/-- one less, from the lowest bit on -/
theorem bit_pred (hi : bit x i = true) (hl : ∀ j, j < i → bit x j = false) : (x - 1).toBitVec.toNat + 1 = x.toBitVec.toNat ∧ ∀ j, bit (x - 1) j = if j < i then true else if j = i then false else bit x j := by
  have hx : x.toBitVec.toNat.testBit i = true := hi
  have hx2 : ∀ j, j < i → x.toBitVec.toNat.testBit j = false := hl
  have hi64 := bit_big hi
  have lt := x.toBitVec.isLt
  generalize hn : x.toBitVec.toNat = n at hx hx2 lt
  have h1 : n % 2 ^ i = 0 := Nat.eq_of_testBit_eq (fun j => by
    rw [Nat.testBit_mod_two_pow, Nat.zero_testBit]
    by_cases q : j < i
    · rw [hx2 j q]
      simp
    · simp [q])
  have h2 : n / 2 ^ i % 2 = 1 := by
    rw [Nat.testBit_eq_decide_div_mod_eq] at hx
    exact of_decide_eq_true hx
  have hq : n / 2 ^ i = 2 * (n / 2 ^ i / 2) + 1 := by omega
  have hn2 : n = 2 ^ i * (n / 2 ^ i) := by
    have := Nat.div_add_mod n (2 ^ i)
    omega
  generalize n / 2 ^ i / 2 = q at hq
  have hp : 0 < 2 ^ i := Nat.two_pow_pos i
  have hn3 : n = 2 ^ i * (2 * q + 1) := by rw [← hq]; exact hn2
  have hpos : 0 < n := by
    rw [hn3]
    exact Nat.mul_pos hp (by omega)
  have hs : (x - 1).toBitVec.toNat = n - 1 := by
    rw [show (x - 1).toBitVec = x.toBitVec - (1 : Int64).toBitVec from rfl, BitVec.toNat_sub, hn]
    rw [show (1 : Int64).toBitVec.toNat = 1 by decide]
    omega
  have hm : n - 1 = 2 ^ i * (2 * q) + (2 ^ i - 1) := by
    rw [hn3, Nat.mul_add, Nat.mul_one]
    omega
  refine ⟨by omega, fun j => ?_⟩
  have e1 : bit (x - 1) j = (n - 1).testBit j := by
    rw [← hs]
    rfl
  have e2 : bit x j = n.testBit j := by
    rw [← hn]
    rfl
  rw [e1, e2, hm, Nat.testBit_two_pow_mul_add _ (by omega)]
  by_cases c1 : j < i
  · rw [if_pos c1, if_pos c1, Nat.testBit_two_pow_sub_one]
    simp [c1]
  · rw [if_neg c1, if_neg c1]
    have e3 : n.testBit j = (2 * q + 1).testBit (j - i) := by
      rw [hn3]
      have := Nat.testBit_two_pow_mul_add (2 * q + 1) (b := 0) (i := i) hp j
      rw [Nat.add_zero, if_neg c1] at this
      exact this
    rw [e3]
    by_cases c2 : j = i
    · rw [if_pos c2, c2, Nat.sub_self, Nat.testBit_zero]
      simp
    · rw [if_neg c2]
      obtain ⟨k, hk⟩ : ∃ k, j - i = k + 1 := ⟨j - i - 1, by omega⟩
      rw [hk, Nat.testBit_succ, Nat.testBit_succ]
      congr 1
      omega
theorem bit_clr (hi : bit x i = true) (hl : ∀ j, j < i → bit x j = false) : bit (x &&& (x - 1)) j = (bit x j && !decide (j = i)) := by
  rw [bit_and, (bit_pred hi hl).2 j]
  by_cases c1 : j < i
  · rw [if_pos c1, hl j c1]
    simp
  · rw [if_neg c1]
    by_cases c2 : j = i
    · rw [if_pos c2]
      simp [c2]
    · rw [if_neg c2]
      simp [c2]
theorem neg_not (h : 0 < x.toBitVec.toNat) : (-x).toBitVec = ~~~(x - 1).toBitVec := by
  apply BitVec.eq_of_toNat_eq
  rw [BitVec.toNat_not, show (x - 1).toBitVec = x.toBitVec - (1 : Int64).toBitVec from rfl, BitVec.toNat_sub, show (-x).toBitVec = -x.toBitVec from rfl, BitVec.toNat_neg]
  rw [show (1 : Int64).toBitVec.toNat = 1 by decide]
  have := x.toBitVec.isLt
  omega
theorem low_1 (hi : bit x i = true) (hl : ∀ j, j < i → bit x j = false) : (x &&& (-x)) = Int64.ofBitVec (BitVec.ofNat 64 (2 ^ i)) := by
  have hp := bit_pred hi hl
  refine bit_ext (fun j hj => ?_)
  have e1 : bit (-x) j = !(bit (x - 1) j) := by
    unfold bit
    rw [neg_not (by omega), BitVec.getLsbD_not]
    simp [hj]
  have e2 : bit (Int64.ofBitVec (BitVec.ofNat 64 (2 ^ i))) j = decide (i = j) := by
    show (BitVec.ofNat 64 (2 ^ i)).getLsbD j = _
    rw [BitVec.getLsbD_ofNat, Nat.testBit_two_pow]
    simp [hj]
  rw [bit_and, e1, e2, hp.2 j]
  by_cases c1 : j < i
  · rw [if_pos c1]
    simp
    omega
  · rw [if_neg c1]
    by_cases c2 : j = i
    · rw [if_pos c2, c2, hi]
      simp
    · rw [if_neg c2]
      cases bit x j <;> simp <;> omega
set_option maxRecDepth 20000 in
theorem bc_all : ∀ i : Fin 64, f_J13_bitCount_95d88 0 (as0 0).1 (Int64.ofBitVec (BitVec.ofNat 64 (2 ^ i.val)) - 1) (as0 0).2 = some (nI i.val) := by decide +kernel
theorem k_lowest (hi : bit x i = true) (hl : ∀ j, j < i → bit x j = false) : f_X11_lowest N sh x d = some (nI i) := by
  unfold f_X11_lowest
  rw [low_1 hi hl]
  have e : f_J13_bitCount_95d88 N sh (Int64.ofBitVec (BitVec.ofNat 64 (2 ^ i)) - 1) d = f_J13_bitCount_95d88 0 (as0 0).1 (Int64.ofBitVec (BitVec.ofNat 64 (2 ^ i)) - 1) (as0 0).2 := rfl
  rw [e, bc_all ⟨i, bit_big hi⟩]
  rfl
theorem cmp0 : lg_cmp x y = 0 ↔ x = y := by
  unfold lg_cmp
  by_cases h : x > y
  · rw [if_pos h]
    refine ⟨fun q => absurd q (by decide), fun q => ?_⟩
    rw [q] at h
    exact absurd h (Int64.lt_irrefl)
  · rw [if_neg h]
    by_cases h2 : x = y
    · rw [if_pos h2]
      exact ⟨fun _ => h2, fun _ => rfl⟩
    · rw [if_neg h2]
      exact ⟨fun q => absurd q (by decide), fun q => absurd q h2⟩
end BT
/-! 65.prep.lean.txt -/
/-! the class: prepare() -/
section PR
variable {β : Type} {Q : β → Prop} {s : AS} {sh : Sh} {d d0 d' : Dt} {z : Nat} {ow : Nat → Nat} {R K : Nat → Int32} {u : Bool} {y : YL} {c N : Nat} {L : Nat → Nat}
/-- only the cells of THE WAYS are touched -/
def WFR (z : Nat) (d d' : Dt) : Prop := d'.2.2 = d.2.2 ∧ ∀ a, a < z + 77 ∨ z + 200 < a → d'.1 a = d.1 a ∧ d'.2.1 a = d.2.1 a
theorem WFR.rf : WFR z d d := ⟨rfl, fun _ _ => ⟨rfl, rfl⟩⟩
theorem WFR.tr {d1 d2 : Dt} (h1 : WFR z d d1) (h2 : WFR z d1 d2) : WFR z d d2 := ⟨h2.1.trans h1.1, fun a q => ⟨(h2.2 a q).1.trans (h1.2 a q).1, (h2.2 a q).2.trans (h1.2 a q).2⟩⟩
theorem WFR.wI {i k : Nat} {v : Int32} (h1 : 77 ≤ i) (h2 : i ≤ 200) : WFR z d (wI d (z + i) k v) := ⟨rfl, fun a q => ⟨wI_n (by omega), rfl⟩⟩
theorem WFR.wJ {i k : Nat} {v : Int64} (h1 : 77 ≤ i) (h2 : i ≤ 200) : WFR z d (wJ d (z + i) k v) := ⟨rfl, fun a q => ⟨rfl, up2_n (by omega)⟩⟩
theorem WFR.row {i : Nat} {f : Nat → Int32} (h1 : 77 ≤ i) (h2 : i ≤ 200) : WFR z d (va_up d.1 (z + i) f, d.2) := ⟨rfl, fun a q => ⟨va_up_n (by omega), rfl⟩⟩
theorem WFR.rowJ {i : Nat} {f : Nat → Int64} (h1 : 77 ≤ i) (h2 : i ≤ 200) : WFR z d (d.1, va_up d.2.1 (z + i) f, d.2.2) := ⟨rfl, fun a q => ⟨rfl, va_up_n (by omega)⟩⟩
theorem WFR.fd (h : WFR z d d') (hw : OWS ow z) : FD (IX z ow 77 200) d d' := fun a ha => by
  have q : a < z + 77 ∨ z + 200 < a := by
    rcases Nat.lt_or_ge a (z + 77) with q | q
    · exact Or.inl q
    · rcases Nat.lt_or_ge (z + 200) a with q2 | q2
      · exact Or.inr q2
      · refine absurd ?_ ha
        obtain ⟨i, rfl⟩ : ∃ i, a = z + i := ⟨a - z, by omega⟩
        have h0 := cO_ways (i := i) (by omega) (by omega)
        rw [Bool.and_eq_true] at h0
        unfold IX
        rw [onr_s (hw i (by omega) (Nat.eq_of_beq_eq_true h0.2)) (by omega)]
        omega
  have r := h.2 a q
  exact ⟨r.1, r.2, by rw [h.1], by rw [h.1]⟩
theorem tb_wfr {o nc S : Nat} {V : Nat → Nat → Int32} (hK : KS sh z) (hw : OWS ow z) (hk : tck o nc = true) (ht : TB sh d z ow o nc S V L) (h : WFR z d d') (hx : 200 < o ∨ o + 1 < 77) : TB sh d' z ow o nc S V L := tb_ix (s := (sh, d)) (s' := (sh, d')) ht hK hw hk ((h.fd hw).es) hx
/-- THE WAYS are found anew: all else stands -/
theorem ci_wy (h : CI s z ow R K u y c) (hf : WFR z s.2 d') (hy : WY d' z R) : CI (s.1, d') z ow R K u y c ∧ RFR z s (s.1, d') := by
  obtain ⟨hK, hw, b1, b2, b3, b4, b5, b6, b7, b8, b9, b10, b11⟩ := h
  have he : ES (IX z ow 77 200) s ow (s.1, d') ow := FD.es (sh := s.1) (d := s.2) (hf.fd hw)
  have r0 := es_row hK hw he (i := 0) (by decide) (by omega)
  refine ⟨⟨hK, hw, bk_ix b1 (Or.inl rfl) hK hw he (by omega), bk_ix b2 (Or.inr rfl) hK hw he (by omega), ?_, pb_ix b4 hK hw he (by omega) (by omega), pb_ix b5 hK hw he (by omega) (by omega), hy, prl_ix b7 hK hw he (by omega), prt_ix b8 b3 hK hw he (by omega), by rw [r0.1]; exact b9, b10, b11.1, tln_eq b11.2 (congrFun (es_row hK hw he (i := 201) (by decide) (by omega)).1 7)⟩, RFR.ix hK hw he (by omega)⟩
  obtain ⟨⟨h1, h2, h3⟩, ⟨⟨S, V, h4, h5⟩, h6⟩, ⟨a, t1, t2, t3, t4, t5, t6⟩, b, g, g1, g2, g3, g4, g5, g6, g7, g8, g9⟩ := b3
  have e2 : d'.2.2.2 = s.2.2.2.2 := by rw [hf.1]
  have Xb : ¬ IX z ow 77 200 b := fun q => by
    unfold IX at q
    rw [onr_r (o := 0) (k := 0) g2 (by omega)] at q
    omega
  have rb := (he.2.2 b g3.2.1).2.2.2.2 Xb
  refine ⟨⟨fun c hc => by rw [e2]; exact h1 c hc, fun c hc => by rw [e2]; exact h2 c hc, fun c hc => by rw [e2]; exact h3 c hc⟩, ⟨⟨S, V, tb_ix h4 hK hw (by decide) he (by omega), h5⟩, h6⟩, ⟨a, by rw [e2]; exact t1, t2, t3, t4, t5, t6⟩, b, g, by rw [e2]; exact g1, g2, g3, g4, g5, g6, by rw [r0.1]; exact g7, g8, fun i hi9 => by rw [rb.1]; exact g9 i hi9⟩
set_option maxRecDepth 20000 in
theorem ck_hop {v : Nat} (hv : v < 60) : (Nat.blt (79 + v) 264 && (Nat.beq (cTl.getD (79 + v) 99) 0 && Nat.beq (cLl.getD (79 + v) 0) 60)) = true := List.all_eq_true.mp (show (List.range 60).all (fun v => Nat.blt (79 + v) 264 && (Nat.beq (cTl.getD (79 + v) 99) 0 && Nat.beq (cLl.getD (79 + v) 0) 60)) = true by decide +kernel) v (List.mem_range.mpr hv)
set_option maxRecDepth 20000 in
theorem ck_gap {v : Nat} (hv : v < 60) : (Nat.blt (141 + v) 264 && (Nat.beq (cTl.getD (141 + v) 99) 0 && Nat.beq (cLl.getD (141 + v) 0) 60)) = true := List.all_eq_true.mp (show (List.range 60).all (fun v => Nat.blt (141 + v) 264 && (Nat.beq (cTl.getD (141 + v) 99) 0 && Nat.beq (cLl.getD (141 + v) 0) 60)) = true by decide +kernel) v (List.mem_range.mpr hv)
/-- the spines of the grids -/
def SPN (d : Dt) (z : Nat) : Prop := (∀ c, c < 60 → d.2.2.2 (z + 78) c = some (z + (79 + c))) ∧ (∀ c, c < 60 → d.2.2.2 (z + 140) c = some (z + (141 + c)))
theorem SPN.wfr (h : SPN d z) (hf : WFR z d d') : SPN d' z := by
  unfold SPN
  rw [hf.1]
  exact h
/-- a cell of hop -/
theorem r_hop {g : Int32 → Option β} {a b : Nat} (hK : KS sh z) (hS : SPN d z) (ha : a < 60) (hb : b < 60) (kk : Rn (g (d.1 (z + (79 + a)) b)) Q) : Rn ((gP sh (z + 77) 10 1).bind fun v => (aQ 5 sh d v (nI a)).bind fun v2 => (aT 0 sh d v2 (nI b)).bind g) Q := by
  refine r_gP hK 77 10 1 78 rfl (by decide) ?_
  refine rn_eq (q_aQ (ks_a hK 78 5 60 rfl) a (z + (79 + a)) rfl ha (by decide) (hS.1 a ha)) ?_
  exact rn_eq (q_aT (ks_a hK (79 + a) 0 60 (ck_hop ha)) b rfl hb (by decide)) kk
/-- a cell of gap -/
theorem r_gap {g : Int32 → Option β} {a b : Nat} (hK : KS sh z) (hS : SPN d z) (ha : a < 60) (hb : b < 60) (kk : Rn (g (d.1 (z + (141 + a)) b)) Q) : Rn ((gP sh (z + 77) 10 3).bind fun v => (aQ 5 sh d v (nI a)).bind fun v2 => (aT 0 sh d v2 (nI b)).bind g) Q := by
  refine r_gP hK 77 10 3 140 rfl (by decide) ?_
  refine rn_eq (q_aQ (ks_a hK 140 5 60 rfl) a (z + (141 + a)) rfl ha (by decide) (hS.2 a ha)) ?_
  exact rn_eq (q_aT (ks_a hK (141 + a) 0 60 (ck_gap ha)) b rfl hb (by decide)) kk
/-- a STREET's column, by way of the books -/
theorem r_stc {g : Int32 → Option β} {i : Nat} {x : Int32} (k : Nat) (hK : KS sh z) (hT : TB sh d z ow 4 9 (nn R 1) (vS R) L) (hi : i < nn R 1) (hk : k < 9) (hx : x = nI k) (kk : Rn (g (R (16 + 9 * i + k))) Q) : Rn ((gP sh (z + 77) 10 0).bind fun v => (gP sh v 1 1).bind fun v2 => (f_X8_get N sh v2 (nI i) x d).bind g) Q := by
  refine r_gP hK 77 10 0 3 rfl (by decide) ?_
  refine r_gP hK 3 1 1 4 rfl (by decide) ?_
  exact rn_eq (tb_get (o := 4) (nc := 9) (c := k) hK (by decide) hT rfl hi hx hk) kk
/-- hop and into, for the STREETS of E -/
def HopJ (d : Dt) (z : Nat) (R : Nat → Int32) (E : Nat → Nat → Nat → Prop) : Prop := (∀ a b, a < 60 → b < 60 → ((d.1 (z + (79 + a)) b = -1 ∧ ∀ s, ¬ E s a b) ∨ ∃ s, d.1 (z + (79 + a)) b = nI s ∧ E s a b ∧ ∀ s', E s' a b → sln R s < sln R s' ∨ (sln R s = sln R s' ∧ s ≤ s')) ∧ (bit (d.2.1 (z + 139) b) a = true ↔ ∃ s, E s a b)) ∧ ∀ a b, b < 60 → 60 ≤ a → bit (d.2.1 (z + 139) b) a = false
theorem k_offer {a b i : Nat} {E : Nat → Nat → Nat → Prop} (hK : KS sh z) (hN : WN R) (hW : WS R) (hS : SPN d z) (hT : TB sh d z ow 4 9 (nn R 1) (vS R) L) (ha : a < 60) (hb : b < 60) (hi : i < nn R 1) (hE : ∀ s, E s a b → s ≤ i) (hH : HopJ d z R E) : Rn (f_X10_offer N sh (z + 77) (nI a) (nI b) (nI i) d) (fun d' => WFR z d d' ∧ HopJ d' z R (fun s x y => E s x y ∨ (s = i ∧ x = a ∧ y = b))) := by
  have n1 := hN.2.1.2
  have h67 : (∀ s', E s' a b → sln R i < sln R s') → Rn (f_X10_offer_67 N sh (z + 77) (nI a) (nI b) (nI i) d) (fun d' => WFR z d d' ∧ HopJ d' z R (fun s x y => E s x y ∨ (s = i ∧ x = a ∧ y = b))) := fun hlt => by
    unfold f_X10_offer_67
    refine r_gP hK 77 10 1 78 rfl (by decide) ?_
    refine rn_eq (q_aQ (ks_a hK 78 5 60 rfl) a (z + (79 + a)) rfl ha (by decide) (hS.1 a ha)) ?_
    refine rn_eq (q_sI (ks_a hK (79 + a) 0 60 (ck_hop ha)) b rfl hb (by decide)) ?_
    refine r_gP hK 77 10 2 139 rfl (by decide) ?_
    refine rn_eq (q_aJ (ks_a hK 139 1 60 rfl) b rfl hb (by decide)) ?_
    refine rn_eq (q_sJ (ks_a hK 139 1 60 rfl) b rfl hb (by decide)) ?_
    refine rn_some ⟨(WFR.wI (by omega) (by omega)).tr (WFR.wJ (by omega) (by omega)), fun x y hx hy => ?_, fun x y hy hx => ?_⟩
    · have e1 : (wJ (wI d (z + (79 + a)) b (nI i)) (z + 139) b ((wI d (z + (79 + a)) b (nI i)).2.1 (z + 139) b ||| bt a)).1 (z + (79 + x)) y = if x = a ∧ y = b then nI i else d.1 (z + (79 + x)) y := by
        show (wI d (z + (79 + a)) b (nI i)).1 (z + (79 + x)) y = _
        by_cases q : x = a
        · subst q
          rw [wI_s]
          by_cases q2 : y = b
          · rw [q2, va_up_s, if_pos ⟨rfl, rfl⟩]
          · rw [va_up_n q2, if_neg (fun q => q2 q.2)]
        · rw [wI_n (by omega), if_neg (fun r => q r.1)]
      have e2 : (wJ (wI d (z + (79 + a)) b (nI i)) (z + 139) b ((wI d (z + (79 + a)) b (nI i)).2.1 (z + 139) b ||| bt a)).2.1 (z + 139) y = if y = b then d.2.1 (z + 139) b ||| bt a else d.2.1 (z + 139) y := by
        show up2 d.2.1 (z + 139) b (d.2.1 (z + 139) b ||| bt a) (z + 139) y = _
        rw [up2_s]
        by_cases q2 : y = b
        · rw [q2, va_up_s, if_pos rfl]
        · rw [va_up_n q2, if_neg q2]
      refine ⟨?_, ?_⟩
      · by_cases q : x = a ∧ y = b
        · obtain ⟨rfl, rfl⟩ := q
          refine Or.inr ⟨i, e1.trans (if_pos ⟨rfl, rfl⟩), Or.inr ⟨rfl, rfl, rfl⟩, fun s' hs' => ?_⟩
          rcases hs' with hs' | hs'
          · exact Or.inl (hlt s' hs')
          · exact Or.inr ⟨by rw [hs'.1], by omega⟩
        · rcases (hH.1 x y hx hy).1 with ⟨p1, p2⟩ | ⟨s, p1, p2, p3⟩
          · exact Or.inl ⟨(e1.trans (if_neg q)).trans p1, fun s hs => hs.elim (p2 s) (fun r => q r.2)⟩
          · exact Or.inr ⟨s, (e1.trans (if_neg q)).trans p1, Or.inl p2, fun s' hs' => hs'.elim (p3 s') (fun r => absurd r.2 q)⟩
      · show bit ((wJ (wI d (z + (79 + a)) b (nI i)) (z + 139) b ((wI d (z + (79 + a)) b (nI i)).2.1 (z + 139) b ||| bt a)).2.1 (z + 139) y) x = true ↔ _
        rw [e2]
        by_cases q2 : y = b
        · subst q2
          rw [if_pos rfl, bit_or, bit_bt ha]
          have hh := (hH.1 x y hx hy).2
          by_cases q : a = x
          · subst q
            exact ⟨fun _ => ⟨i, Or.inr ⟨rfl, rfl, rfl⟩⟩, fun _ => by simp⟩
          · simp only [q, decide_false, Bool.or_false]
            rw [hh]
            exact ⟨fun ⟨s, hs⟩ => ⟨s, Or.inl hs⟩, fun ⟨s, hs⟩ => hs.elim (fun r => ⟨s, r⟩) (fun r => absurd r.2.1.symm q)⟩
        · rw [if_neg q2, (hH.1 x y hx hy).2]
          exact ⟨fun ⟨s, hs⟩ => ⟨s, Or.inl hs⟩, fun ⟨s, hs⟩ => hs.elim (fun r => ⟨s, r⟩) (fun r => absurd r.2.2 q2)⟩
    · show bit (up2 d.2.1 (z + 139) b (d.2.1 (z + 139) b ||| bt a) (z + 139) y) x = false
      rw [up2_s]
      by_cases q2 : y = b
      · rw [q2, va_up_s, bit_or, bit_bt ha, hH.2 x b hb hx]
        simp
        omega
      · rw [va_up_n q2]
        exact hH.2 x y hy hx
  unfold f_X10_offer
  refine rn_t (ks_o hK 77 10 rfl) ?_
  refine rn_f (nI_pos (by omega)) ?_
  refine rn_f (nI_ge (b := 60) ha (by decide)) ?_
  refine rn_f (nI_pos (by omega)) ?_
  refine rn_t (nI_lt (b := 60) hb (by decide)) ?_
  refine r_hop hK hS ha hb ?_
  rcases (hH.1 a b ha hb).1 with ⟨p1, p2⟩ | ⟨s, p1, p2, p3⟩
  · refine rn_t p1 ?_
    exact h67 (fun s' hs' => absurd hs' (p2 s'))
  · have hsi := hE s p2
    have hsn : s < nn R 1 := by omega
    rw [p1]
    refine rn_f (nI_m1 (by omega)) ?_
    refine r_stc 6 hK hT hi (by decide) rfl ?_
    refine r_stc 6 hK hT hsn (by decide) rfl ?_
    rw [(hW i hi).2.1.1, (hW s hsn).2.1.1]
    have l1 := (hW i hi).2.1.2
    have l2 := (hW s hsn).2.1.2
    refine rn_ite (fun hle => ?_) (fun hle => ?_)
    · have hle := (nI_leI (by omega) (by omega)).mp hle
      refine rn_some ⟨WFR.rf, fun x y hx hy => ?_, hH.2⟩
      by_cases q : x = a ∧ y = b
      · obtain ⟨rfl, rfl⟩ := q
        refine ⟨Or.inr ⟨s, p1, Or.inl p2, fun s' hs' => hs'.elim (p3 s') (fun r => by rw [r.1]; omega)⟩, ?_⟩
        rw [(hH.1 x y hx hy).2]
        exact ⟨fun ⟨s, hs⟩ => ⟨s, Or.inl hs⟩, fun _ => ⟨s, p2⟩⟩
      · rcases (hH.1 x y hx hy).1 with ⟨r1, r2⟩ | ⟨s9, r1, r2, r3⟩
        · refine ⟨Or.inl ⟨r1, fun s hs => hs.elim (r2 s) (fun r => q r.2)⟩, ?_⟩
          rw [(hH.1 x y hx hy).2]
          exact ⟨fun ⟨s, hs⟩ => ⟨s, Or.inl hs⟩, fun ⟨s, hs⟩ => hs.elim (fun r => ⟨s, r⟩) (fun r => absurd r.2 q)⟩
        · refine ⟨Or.inr ⟨s9, r1, Or.inl r2, fun s' hs' => hs'.elim (r3 s') (fun r => absurd r.2 q)⟩, ?_⟩
          rw [(hH.1 x y hx hy).2]
          exact ⟨fun ⟨s, hs⟩ => ⟨s, Or.inl hs⟩, fun ⟨s, hs⟩ => hs.elim (fun r => ⟨s, r⟩) (fun r => absurd r.2 q)⟩
    · refine h67 (fun s' hs' => ?_)
      have : ¬ sln R s ≤ sln R i := fun q => hle ((nI_leI (by omega) (by omega)).mpr q)
      have := p3 s' hs'
      omega
end PR
/-! 66.prep2.lean.txt -/
section PR2
variable {Q : Dt → Prop} {sh : Sh} {d d0 d' : Dt} {z : Nat} {ow : Nat → Nat} {R : Nat → Int32} {N : Nat} {L : Nat → Nat}
theorem fillJ_loop {a n : Nat} {v : Int64} (ha : isA sh a 1 ∧ sh.2.2.1 a = n) (hn : n < 2 ^ 31) : ∀ (m i fu : Nat) (d : Dt), i + m = n → m < fu → f_J7_fill_d0a16_6 N sh fu a v (nI i) (nI n) d = some (d.1, va_up d.2.1 a (fun k => if i ≤ k ∧ k < n then v else d.2.1 a k), d.2.2)
  | 0, i, fu, d, hi, hf => by
    obtain ⟨fu, rfl⟩ : ∃ q, fu = q + 1 := ⟨fu - 1, by omega⟩
    show g_J7_fill_d0a16_6 N sh (f_J7_fill_d0a16_6 N sh fu) a v (nI i) (nI n) d = _
    unfold g_J7_fill_d0a16_6
    rw [if_pos ((nI_leI (by omega) (by omega)).mpr (by omega))]
    show some d = _
    congr 1
    refine Prod.ext rfl (Prod.ext ?_ rfl)
    funext b
    show d.2.1 b = va_up d.2.1 a _ b
    by_cases e : b = a
    · subst e
      rw [va_up_s]
      funext k
      rw [if_neg (by omega)]
    · rw [va_up_n e]
  | m + 1, i, fu, d, hi, hf => by
    obtain ⟨fu, rfl⟩ : ∃ q, fu = q + 1 := ⟨fu - 1, by omega⟩
    show g_J7_fill_d0a16_6 N sh (f_J7_fill_d0a16_6 N sh fu) a v (nI i) (nI n) d = _
    unfold g_J7_fill_d0a16_6
    rw [if_neg (nI_ge (by omega) (by omega)), q_sJ ha i rfl (by omega) hn]
    show f_J7_fill_d0a16_6 N sh fu a v (nI i + 1) (nI n) (wJ d a i v) = _
    rw [nI_1, fillJ_loop ha hn m (i + 1) fu (wJ d a i v) (by omega) (by omega)]
    congr 1
    refine Prod.ext rfl (Prod.ext ?_ rfl)
    funext b
    show va_up (up2 d.2.1 a i v) a (fun k => if i + 1 ≤ k ∧ k < n then v else up2 d.2.1 a i v a k) b = va_up d.2.1 a _ b
    by_cases e : b = a
    · subst e
      rw [va_up_s, va_up_s, up2_s]
      funext k
      by_cases h1 : k = i
      · subst h1
        rw [if_neg (by omega), if_pos (by omega), va_up_s]
      · rw [va_up_n h1]
        by_cases h2 : i ≤ k ∧ k < n
        · rw [if_pos (by omega), if_pos h2]
        · rw [if_neg (by omega), if_neg h2]
    · rw [va_up_n e, va_up_n e, up2_n e]
theorem fillJ_eq {a n : Nat} {v : Int64} (ha : isA sh a 1 ∧ sh.2.2.1 a = n) (hn : n < 2 ^ 31) (hN : n < N) : f_J7_fill_d0a16 N sh a v d = some (d.1, va_up d.2.1 a (fun k => if k < n then v else d.2.1 a k), d.2.2) := by
  unfold f_J7_fill_d0a16
  rw [q_len ha (by decide)]
  show f_J7_fill_d0a16_6 N sh N a v (nI 0) (nI n) d = _
  rw [fillJ_loop ha hn n 0 N d (by omega) (by omega)]
  simp
theorem edge_iff {i ea eb x y : Nat} (hi : i < nn R 1) (ho : R (16 + 9 * i + 4) = 0) (e7 : R (16 + 9 * i + 7) = nI ea) (e8 : R (16 + 9 * i + 8) = nI eb) (h1 : ea < 2 ^ 31) (h2 : eb < 2 ^ 31) (hx : x < 2 ^ 31) (hy : y < 2 ^ 31) : edge R i x y ↔ (x = ea ∧ y = eb) ∨ (R (16 + 9 * i + 5) = 0 ∧ x = eb ∧ y = ea) := by
  unfold edge
  rw [e7, e8, nI_eq h1 hx, nI_eq h2 hy, nI_eq h2 hx, nI_eq h1 hy]
  refine ⟨fun q => q.2.2.elim (fun r => Or.inl ⟨r.1.symm, r.2.symm⟩) (fun r => Or.inr ⟨r.1, r.2.1.symm, r.2.2.symm⟩), fun q => ⟨hi, ho, q.elim (fun r => Or.inl ⟨r.1.symm, r.2.symm⟩) (fun r => Or.inr ⟨r.1, r.2.1.symm, r.2.2.symm⟩)⟩⟩
theorem HopJ.cg {E E' : Nat → Nat → Nat → Prop} (h : HopJ d z R E) (he : ∀ s a b, a < 60 → b < 60 → (E s a b ↔ E' s a b)) : HopJ d z R E' := by
  refine ⟨fun a b ha hb => ?_, h.2⟩
  obtain ⟨h1, h2⟩ := h.1 a b ha hb
  refine ⟨?_, ?_⟩
  · rcases h1 with ⟨q1, q2⟩ | ⟨s, q1, q2, q3⟩
    · exact Or.inl ⟨q1, fun s hs => q2 s ((he s a b ha hb).mpr hs)⟩
    · exact Or.inr ⟨s, q1, (he s a b ha hb).mp q2, fun s' hs' => q3 s' ((he s' a b ha hb).mpr hs')⟩
  · rw [h2]
    exact ⟨fun ⟨s, hs⟩ => ⟨s, (he s a b ha hb).mp hs⟩, fun ⟨s, hs⟩ => ⟨s, (he s a b ha hb).mpr hs⟩⟩
theorem prep_loop (hK : KS sh z) (hw : OWS ow z) (hN : WN R) (hW : WS R) (hS : SPN d0 z) (hT : TB sh d0 z ow 4 9 (nn R 1) (vS R) L) : ∀ (m i fu : Nat) (d : Dt), i + m = nn R 1 → m < fu → WFR z d0 d → HopJ d z R (fun s a b => s < i ∧ edge R s a b) → Rn (f_X10_prepare_42 N sh fu (z + 77) (nI i) d) (fun d' => WFR z d0 d' ∧ d'.1 (z + 77) 5 = 1 ∧ HopOK d' z R ∧ GapOK d' z R)
  | 0, i, fu, d, hi, hf, hM, hH => by
    obtain ⟨fu, rfl⟩ : ∃ q, fu = q + 1 := ⟨fu - 1, by omega⟩
    show Rn (g_X10_prepare_42 N sh (f_X10_prepare_42 N sh fu) (z + 77) (nI i) d) _
    have n1 := hN.2.1
    have hTd := tb_wfr hK hw (by decide) hT hM (by omega)
    unfold g_X10_prepare_42
    refine r_gP hK 77 10 0 3 rfl (by decide) ?_
    refine r_gP hK 3 1 1 4 rfl (by decide) ?_
    refine r_gI hK (i := 4) (c := 8) rfl ?_
    rw [hTd.1]
    refine rn_t ((nI_leI (by omega) (by omega)).mpr (by omega)) ?_
    unfold f_X10_prepare_134
    refine r_pJ hK (i := 77) (c := 10) rfl ?_
    refine r_pI hK (i := 77) (c := 10) rfl ?_
    have e : i = nn R 1 := by omega
    subst e
    refine rn_some ⟨hM.tr ((WFR.wJ (by omega) (by omega)).tr (WFR.wI (by omega) (by omega))), ?_, ⟨fun a b ha hb => ?_, fun a b hb ha => ?_⟩, fun v hv hb => ?_⟩
    · rw [wI_s, va_up_s]
    · have q := hH.cg (E' := edge R) (fun s a b _ _ => ⟨fun r => r.2, fun r => ⟨r.1, r⟩⟩)
      have q := q.1 a b ha hb
      have e1 : (wI (wJ d (z + 77) 4 0) (z + 77) 5 1).1 (z + (79 + a)) = d.1 (z + (79 + a)) := wI_n (by omega)
      have e2 : (wI (wJ d (z + 77) 4 0) (z + 77) 5 1).2.1 (z + 139) = d.2.1 (z + 139) := up2_n (by omega)
      rw [e1, e2]
      exact q
    · have e2 : (wI (wJ d (z + 77) 4 0) (z + 77) 5 1).2.1 (z + 139) = d.2.1 (z + 139) := up2_n (by omega)
      rw [e2]
      exact hH.2 a b hb ha
    · have e2 : (wI (wJ d (z + 77) 4 0) (z + 77) 5 1).2.1 (z + 77) 4 = 0 := by
        show up2 d.2.1 (z + 77) 4 0 (z + 77) 4 = 0
        rw [up2_s, va_up_s]
      rw [e2, bit_0] at hb
      cases hb
  | m + 1, i, fu, d, hi, hf, hM, hH => by
    obtain ⟨fu, rfl⟩ : ∃ q, fu = q + 1 := ⟨fu - 1, by omega⟩
    have ih := prep_loop hK hw hN hW hS hT m (i + 1) fu
    show Rn (g_X10_prepare_42 N sh (f_X10_prepare_42 N sh fu) (z + 77) (nI i) d) _
    have n0 := hN.1.2
    have n1 := hN.2.1
    have his : i < nn R 1 := by omega
    have hTd := tb_wfr hK hw (by decide) hT hM (by omega)
    obtain ⟨⟨ea, eb, ea2, eb2, hne, e7, e8⟩, -, e5, e4, -⟩ := hW i his
    unfold g_X10_prepare_42
    refine r_gP hK 77 10 0 3 rfl (by decide) ?_
    refine r_gP hK 3 1 1 4 rfl (by decide) ?_
    refine r_gI hK (i := 4) (c := 8) rfl ?_
    rw [hTd.1]
    refine rn_f (nI_ge his (by omega)) ?_
    refine r_stc 7 hK hTd his (by decide) rfl ?_
    refine r_stc 8 hK hTd his (by decide) rfl ?_
    refine r_stc 4 hK hTd his (by decide) rfl ?_
    rcases e4 with e4 | e4
    · refine rn_f (fun q => q e4) ?_
      rw [e7, e8]
      have hed := fun (x y : Nat) (hx : x < 60) (hy : y < 60) => edge_iff (x := x) (y := y) his e4 e7 e8 (by omega) (by omega) (by omega) (by omega)
      refine rn_bind (k_offer hK hN hW (hS.wfr hM) hTd (by omega) (by omega) his (fun s hs => by omega) hH) (fun d1 hd1 => ?_)
      have hM1 := hM.tr hd1.1
      have hTd1 := tb_wfr hK hw (by decide) hT hM1 (by omega)
      refine r_stc 5 hK hTd1 his (by decide) rfl ?_
      rcases e5 with e5 | e5
      · refine rn_f (fun q => q e5) ?_
        refine rn_bind (k_offer hK hN hW (hS.wfr hM1) hTd1 (a := eb) (b := ea) (by omega) (by omega) his (fun s hs => by omega) hd1.2) (fun d2 hd2 => ?_)
        unfold f_X10_prepare_128
        rw [nI_1]
        refine ih d2 (by omega) (by omega) (hM1.tr hd2.1) (hd2.2.cg (fun s x y hx hy => ?_))
        have q := hed x y hx hy
        refine ⟨fun r => ?_, fun r => ?_⟩
        · rcases r with (r | r) | r
          · exact ⟨by omega, r.2⟩
          · obtain ⟨rfl, r2⟩ := r
            exact ⟨by omega, q.mpr (Or.inl r2)⟩
          · obtain ⟨rfl, r2⟩ := r
            exact ⟨by omega, q.mpr (Or.inr ⟨e5, r2⟩)⟩
        · by_cases es : s = i
          · subst es
            rcases q.mp r.2 with r2 | r2
            · exact Or.inl (Or.inr ⟨rfl, r2⟩)
            · exact Or.inr ⟨rfl, r2.2⟩
          · exact Or.inl (Or.inl ⟨by omega, r.2⟩)
      · refine rn_t (by rw [e5]; decide) ?_
        unfold f_X10_prepare_128
        rw [nI_1]
        refine ih d1 (by omega) (by omega) hM1 (hd1.2.cg (fun s x y hx hy => ?_))
        have q := hed x y hx hy
        refine ⟨fun r => ?_, fun r => ?_⟩
        · rcases r with r | r
          · exact ⟨by omega, r.2⟩
          · obtain ⟨rfl, r2⟩ := r
            exact ⟨by omega, q.mpr (Or.inl r2)⟩
        · by_cases es : s = i
          · subst es
            rcases q.mp r.2 with r2 | r2
            · exact Or.inr ⟨rfl, r2⟩
            · rw [e5] at r2
              exact absurd r2.1 (by decide)
          · exact Or.inl ⟨by omega, r.2⟩
    · refine rn_t (by rw [e4]; decide) ?_
      unfold f_X10_prepare_128
      rw [nI_1]
      refine ih d (by omega) (by omega) hM (hH.cg (fun s x y hx hy => ⟨fun r => ⟨by omega, r.2⟩, fun r => ⟨?_, r.2⟩⟩))
      by_cases es : s = i
      · subst es
        have := r.2.2.1
        rw [e4] at this
        exact absurd this (by decide)
      · omega
theorem hop_loop (hN2 : 300 ≤ N) (hK : KS sh z) (hw : OWS ow z) (hN : WN R) (hW : WS R) (hS : SPN d0 z) (hT : TB sh d0 z ow 4 9 (nn R 1) (vS R) L) : ∀ (m i fu : Nat) (d : Dt), i + m = 60 → m < fu → WFR z d0 d → (∀ a b, a < i → b < 60 → d.1 (z + (79 + a)) b = -1) → Rn (f_X10_prepare_10 N sh fu (z + 77) (nI i) d) (fun d' => WFR z d0 d' ∧ d'.1 (z + 77) 5 = 1 ∧ HopOK d' z R ∧ GapOK d' z R)
  | 0, i, fu, d, hi, hf, hM, hH => by
    obtain ⟨fu, rfl⟩ : ∃ q, fu = q + 1 := ⟨fu - 1, by omega⟩
    show Rn (g_X10_prepare_10 N sh (f_X10_prepare_10 N sh fu) (z + 77) (nI i) d) _
    have n1 := hN.2.1.2
    unfold g_X10_prepare_10
    refine rn_t ((nI_leI (a := 60) (by omega) (by omega)).mpr (by omega)) ?_
    unfold f_X10_prepare_32
    refine r_gP hK 77 10 2 139 rfl (by decide) ?_
    refine rn_eq (fillJ_eq (ks_a hK 139 1 60 rfl) (by decide) (by omega)) ?_
    refine prep_loop hK hw hN hW hS hT (nn R 1) 0 N _ (by omega) (by omega) (hM.tr (WFR.rowJ (by omega) (by omega))) ⟨fun a b ha hb => ⟨Or.inl ⟨hH a b (by omega) hb, fun s hs => absurd hs.1 (Nat.not_lt_zero s)⟩, ?_⟩, fun a b hb _ => by
      show bit (va_up d.2.1 (z + 139) (fun k => if k < 60 then 0 else d.2.1 (z + 139) k) (z + 139) b) a = false
      rw [va_up_s, if_pos hb, bit_0]⟩
    show bit (va_up d.2.1 (z + 139) (fun k => if k < 60 then 0 else d.2.1 (z + 139) k) (z + 139) b) a = true ↔ _
    rw [va_up_s, if_pos hb, bit_0]
    exact ⟨fun q => (by cases q), fun ⟨s, hs⟩ => absurd hs.1 (Nat.not_lt_zero s)⟩
  | m + 1, i, fu, d, hi, hf, hM, hH => by
    obtain ⟨fu, rfl⟩ : ∃ q, fu = q + 1 := ⟨fu - 1, by omega⟩
    have ih := hop_loop hN2 hK hw hN hW hS hT m (i + 1) fu
    show Rn (g_X10_prepare_10 N sh (f_X10_prepare_10 N sh fu) (z + 77) (nI i) d) _
    have hSd := hS.wfr hM
    unfold g_X10_prepare_10
    refine rn_f (nI_ge (b := 60) (by omega) (by decide)) ?_
    refine r_gP hK 77 10 1 78 rfl (by decide) ?_
    refine rn_eq (q_aQ (ks_a hK 78 5 60 rfl) i (z + (79 + i)) rfl (by omega) (by decide) (hSd.1 i (by omega))) ?_
    refine rn_eq (fill_eq (ks_a hK (79 + i) 0 60 (ck_hop (by omega))) (by decide) (by omega)) ?_
    rw [nI_1]
    refine ih _ (by omega) (by omega) (hM.tr (WFR.row (by omega) (by omega))) (fun a b ha hb => ?_)
    show va_up d.1 (z + (79 + i)) (fun k => if k < 60 then -1 else d.1 (z + (79 + i)) k) (z + (79 + a)) b = -1
    by_cases e : a = i
    · subst e
      rw [va_up_s, if_pos hb]
    · rw [va_up_n (by omega)]
      exact hH a b (by omega) hb
theorem k_prepare (hN2 : 300 ≤ N) (hK : KS sh z) (hw : OWS ow z) (hN : WN R) (hW : WS R) (hS : SPN d z) (hT : TB sh d z ow 4 9 (nn R 1) (vS R) L) (hy : WY d z R) : Rn (f_X10_prepare N sh (z + 77) d) (fun d' => WFR z d d' ∧ d'.1 (z + 77) 5 = 1 ∧ HopOK d' z R ∧ GapOK d' z R) := by
  unfold f_X10_prepare
  refine rn_t (ks_o hK 77 10 rfl) ?_
  refine r_gI hK (i := 77) (c := 10) rfl ?_
  rcases hy with hy | hy
  · refine rn_t hy ?_
    exact hop_loop hN2 hK hw hN hW hS hT 60 0 N d (by omega) (by omega) WFR.rf (fun a b ha => absurd ha (Nat.not_lt_zero a))
  · refine rn_f (by rw [hy.1]; decide) ?_
    exact rn_some ⟨WFR.rf, hy⟩
end PR2
/-! 67.meas.lean.txt -/
/-! the class: measure() -/
def DJ (R : Nat → Int32) (g : Nat) (f : Nat → Nat) (S B : Int64) (k : Nat) : Prop :=
  (f g = 0 ∧ g < nn R 0 ∧ (bit S g = true ∨ bit B g = true)) ∧ (∀ j, bit S j = true → j < nn R 0) ∧ (∀ j, bit B j = true → j < nn R 0 ∧ bit S j = false) ∧
  (∀ a, a < 60 → (bit S a = true ∨ bit B a = true) → f a ≤ 10000 * k) ∧ (∀ a, a < 60 → bit S a = false → bit B a = false → f a = 1000000000) ∧
  (∀ a b, bit S a = true → bit B b = true → f a ≤ f b) ∧
  (∀ a, (bit S a = true ∨ bit B a = true) → a ≠ g → ∃ s c, bit S c = true ∧ edge R s a c ∧ f a = sln R s + f c) ∧
  (∀ s a c, a < nn R 0 → bit S c = true → edge R s a c → (bit S a = true ∨ bit B a = true) ∧ f a ≤ sln R s + f c) ∧
  smN (fun j => if bit S j = true then 1 else 0) (nn R 0) = k
section ME
variable {β : Type} {Q : Dt → Prop} {sh : Sh} {d d0 d' : Dt} {z : Nat} {ow : Nat → Nat} {R : Nat → Int32} {N g : Nat} {L : Nat → Nat} {f : Nat → Nat} {S B : Int64} {k m : Nat}
theorem bool_f {b : Bool} (h : ¬ b = true) : b = false := by cases b <;> simp_all
theorem dj_0 (hg : g < nn R 0) (hN : WN R) : DJ R g (fun a => if a = g then 0 else 1000000000) 0 (bt g) 0 := by
  have n0 := hN.1.2
  have hb : ∀ j, bit (bt g) j = true → j = g := fun j h => by
    rw [bit_bt (by omega)] at h
    exact (of_decide_eq_true h).symm
  have hg2 : bit (bt g) g = true := by
    rw [bit_bt (by omega)]
    simp
  have h0 : ∀ j, ¬ bit 0 j = true := fun j h => by
    rw [bit_0] at h
    cases h
  refine ⟨⟨if_pos rfl, hg, Or.inr hg2⟩, fun j h => absurd h (h0 j), fun j h => ⟨by rw [hb j h]; exact hg, bit_0⟩, fun a _ h => ?_, fun a _ _ h => ?_, fun a b h => absurd h (h0 a), fun a h hne => ?_, fun s a c _ h => absurd h (h0 c), ?_⟩
  · rcases h with h | h
    · exact absurd h (h0 a)
    · show (if a = g then 0 else 1000000000) ≤ 10000 * 0
      rw [if_pos (hb a h)]
      exact Nat.zero_le _
  · show (if a = g then 0 else 1000000000) = 1000000000
    exact if_neg (fun e => by rw [e, hg2] at h; cases h)
  · rcases h with h | h
    · exact absurd h (h0 a)
    · exact absurd (hb a h) hne
  · have : (fun j => if bit 0 j = true then 1 else 0) = fun _ : Nat => 0 := funext fun j => if_neg (h0 j)
    rw [this, smN_const]
    rfl
/-- one CROSSING more is settled -/
theorem dj_step {I : Int64} {ml : Nat → Nat} {f' : Nat → Nat} (hN : WN R) (hW : WS R) (h : DJ R g f S B k) (hm : bit B m = true) (hmin : ∀ j, bit B j = true → f m ≤ f j) (hI : ∀ a, bit I a = true ↔ ∃ s, a < 60 ∧ edge R s a m) (hml : ∀ a, bit I a = true → ∃ s, edge R s a m ∧ ml a = sln R s ∧ ∀ s', edge R s' a m → sln R s ≤ sln R s')
    (hf' : ∀ a, a < 60 → f' a = if bit (I &&& ((S ||| bt m) ^^^ (-1))) a = true then min (f a) (f m + ml a) else f a) : DJ R g f' (S ||| bt m) ((B ^^^ bt m) ||| (I &&& ((S ||| bt m) ^^^ (-1)))) (k + 1) := by
  obtain ⟨⟨h1, h2, h3⟩, h4, h5, h6, h7, h8, h9, h10, h11⟩ := h
  have n0 := hN.1.2
  have hm2 := h5 m hm
  have hm60 : m < 60 := by omega
  have bS : ∀ j, bit (S ||| bt m) j = true ↔ (bit S j = true ∨ j = m) := fun j => by
    rw [bit_or, bit_bt hm60, Bool.or_eq_true, decide_eq_true_iff]
    exact or_congr Iff.rfl ⟨Eq.symm, Eq.symm⟩
  have bF : ∀ j, bit (I &&& ((S ||| bt m) ^^^ (-1))) j = true ↔ (bit I j = true ∧ ¬ bit (S ||| bt m) j = true) := fun j => by
    rw [bit_and, Bool.and_eq_true]
    refine ⟨fun q => ⟨q.1, fun r => ?_⟩, fun q => ⟨q.1, ?_⟩⟩
    · rw [bit_not (bit_big q.1), r] at q
      exact absurd q.2 (by decide)
    · rw [bit_not (bit_big q.1), bool_f q.2]
      rfl
  have bX : ∀ j, bit (B ^^^ bt m) j = true ↔ (bit B j = true ∧ j ≠ m) := fun j => by
    rw [bit_xor, bit_bt hm60]
    by_cases e : m = j
    · subst e
      rw [hm]
      simp
    · simp only [e, decide_false, Bool.xor_false]
      exact ⟨fun q => ⟨q, fun r => e r.symm⟩, fun q => q.1⟩
  have bB : ∀ j, bit ((B ^^^ bt m) ||| (I &&& ((S ||| bt m) ^^^ (-1)))) j = true ↔ ((bit B j = true ∧ j ≠ m) ∨ (bit I j = true ∧ ¬ bit S j = true ∧ j ≠ m)) := fun j => by
    rw [bit_or, Bool.or_eq_true, bX, bF, bS]
    refine or_congr Iff.rfl (and_congr Iff.rfl ⟨fun q => ⟨fun r => q (Or.inl r), fun r => q (Or.inr r)⟩, fun q r => r.elim q.1 q.2⟩)
  -- what f' is
  have fr : ∀ a, bit I a = true → ¬ bit S a = true → a ≠ m → f' a = min (f a) (f m + ml a) := fun a q1 q2 q3 => by
    obtain ⟨s, ha, he⟩ := (hI a).mp q1
    rw [hf' a ha, if_pos ((bF a).mpr ⟨q1, fun r => ((bS a).mp r).elim q2 q3⟩)]
  have fo : ∀ a, a < 60 → (¬ bit I a = true ∨ bit S a = true ∨ a = m) → f' a = f a := fun a ha q => by
    rw [hf' a ha, if_neg (fun r => ?_)]
    obtain ⟨r1, r2⟩ := (bF a).mp r
    rcases q with q | q | q
    · exact q r1
    · exact r2 ((bS a).mpr (Or.inl q))
    · exact r2 ((bS a).mpr (Or.inr q))
  have fle : ∀ a, a < 60 → f' a ≤ f a := fun a ha => by
    rw [hf' a ha]
    split <;> omega
  have fS : ∀ a, bit S a = true → f' a = f a := fun a q => fo a (by have := h4 a q; omega) (Or.inr (Or.inl q))
  have fm : f' m = f m := fo m hm60 (Or.inr (Or.inr rfl))
  have fm6 := h6 m hm60 (Or.inr hm)
  have hml2 : ∀ a, bit I a = true → 1 ≤ ml a ∧ ml a ≤ 10000 := fun a q => by
    obtain ⟨s, q1, q2, q3⟩ := hml a q
    rw [q2]
    exact edge_sln hW q1
  have hSm : smN (fun j => if bit (S ||| bt m) j = true then 1 else 0) (nn R 0) = k + 1 := by
    have e : (fun j => if bit (S ||| bt m) j = true then 1 else 0) = va_up (fun j => if bit S j = true then 1 else 0) m 1 := funext fun j => by
      by_cases q : j = m
      · subst q
        rw [va_up_s, if_pos ((bS j).mpr (Or.inr rfl))]
      · rw [va_up_n q]
        by_cases q2 : bit S j = true
        · rw [if_pos q2, if_pos ((bS j).mpr (Or.inl q2))]
        · rw [if_neg q2, if_neg (fun r => ((bS j).mp r).elim q2 q)]
    have r := smN_up (f := fun j => if bit S j = true then 1 else 0) (c := m) (v := 1) (nn R 0) hm2.1
    rw [if_neg (by rw [hm2.2]; decide)] at r
    rw [e]
    omega
  have hk60 : k + 1 ≤ 60 := by
    rw [← hSm]
    have q := smN_le (f := fun j => if bit (S ||| bt m) j = true then 1 else 0) (g := fun _ => 1) (nn R 0) (fun j _ => by
      show (if bit (S ||| bt m) j = true then 1 else 0) ≤ 1
      split <;> omega)
    rw [smN_const] at q
    omega
  refine ⟨⟨?_, h2, ?_⟩, fun j q => ?_, fun j q => ?_, fun a ha q => ?_, fun a ha q1 q2 => ?_, fun a b qa qb => ?_, fun a q hne => ?_, fun s a c ha qc he => ?_, hSm⟩
  · have := fle g (by omega)
    omega
  · rcases h3 with h3 | h3
    · exact Or.inl ((bS g).mpr (Or.inl h3))
    · by_cases e : g = m
      · exact Or.inl ((bS g).mpr (Or.inr e))
      · exact Or.inr ((bB g).mpr (Or.inl ⟨h3, e⟩))
  · rcases (bS j).mp q with q | q
    · exact h4 j q
    · rw [q]
      exact hm2.1
  · rcases (bB j).mp q with q | q
    · have r := h5 j q.1
      exact ⟨r.1, bool_f (fun r2 => ((bS j).mp r2).elim (fun r3 => by rw [r.2] at r3; cases r3) q.2)⟩
    · obtain ⟨s, hj, he⟩ := (hI j).mp q.1
      exact ⟨(edge_lt hW hN he (by omega) (by omega)).1, bool_f (fun r2 => ((bS j).mp r2).elim q.2.1 q.2.2)⟩
  · have q : bit S a = true ∨ bit B a = true ∨ bit I a = true ∧ ¬ bit S a = true ∧ a ≠ m := by
      rcases q with q | q
      · rcases (bS a).mp q with q | q
        · exact Or.inl q
        · rw [q]
          exact Or.inr (Or.inl hm)
      · rcases (bB a).mp q with q | q
        · exact Or.inr (Or.inl q.1)
        · exact Or.inr (Or.inr q)
    have := fle a ha
    rcases q with q | q | q
    · have := h6 a ha (Or.inl q)
      omega
    · have := h6 a ha (Or.inr q)
      omega
    · have := hml2 a q.1
      rw [fr a q.1 q.2.1 q.2.2]
      omega
  · have q1 : ¬ (bit S a = true ∨ a = m) := fun r => by
      rw [(bS a).mpr r] at q1
      cases q1
    have q2 : ¬ ((bit B a = true ∧ a ≠ m) ∨ (bit I a = true ∧ ¬ bit S a = true ∧ a ≠ m)) := fun r => by
      rw [(bB a).mpr r] at q2
      cases q2
    rw [fo a ha (Or.inl (fun r => q2 (Or.inr ⟨r, fun r2 => q1 (Or.inl r2), fun r2 => q1 (Or.inr r2)⟩)))]
    exact h7 a ha (bool_f (fun r => q1 (Or.inl r))) (bool_f (fun r => q2 (Or.inl ⟨r, fun r2 => q1 (Or.inr r2)⟩)))
  · have fa : f' a ≤ f m := by
      rcases (bS a).mp qa with q | q
      · rw [fS a q]
        exact h8 a m q hm
      · rw [q, fm]
        exact Nat.le_refl _
    refine Nat.le_trans fa ?_
    rcases (bB b).mp qb with q | q
    · have hb := (h5 b q.1).1
      have := hmin b q.1
      by_cases qi : bit I b = true
      · have := hml2 b qi
        rw [fr b qi (by rw [(h5 b q.1).2]; decide) q.2]
        omega
      · rw [fo b (by omega) (Or.inl qi)]
        exact this
    · obtain ⟨s, hb, he⟩ := (hI b).mp q.1
      have := hml2 b q.1
      rw [fr b q.1 q.2.1 q.2.2]
      by_cases qb2 : bit B b = true
      · have := hmin b qb2
        omega
      · have := h7 b hb (bool_f q.2.1) (bool_f qb2)
        omega
  · have old : (bit S a = true ∨ bit B a = true) → f' a = f a → ∃ s c, bit (S ||| bt m) c = true ∧ edge R s a c ∧ f' a = sln R s + f' c := fun q e => by
      obtain ⟨s, c, r1, r2, r3⟩ := h9 a q hne
      exact ⟨s, c, (bS c).mpr (Or.inl r1), r2, by rw [e, fS c r1]; exact r3⟩
    have new : bit I a = true → ¬ bit S a = true → a ≠ m → f' a = f m + ml a → ∃ s c, bit (S ||| bt m) c = true ∧ edge R s a c ∧ f' a = sln R s + f' c := fun q1 q2 q3 e => by
      obtain ⟨s, r1, r2, r3⟩ := hml a q1
      exact ⟨s, m, (bS m).mpr (Or.inr rfl), r1, by rw [e, fm]; omega⟩
    rcases q with q | q
    · rcases (bS a).mp q with q | q
      · exact old (Or.inl q) (fS a q)
      · exact old (Or.inr (by rw [q]; exact hm)) (by rw [q]; exact fm)
    · rcases (bB a).mp q with q | q
      · by_cases qi : bit I a = true
        · have qs : ¬ bit S a = true := by rw [(h5 a q.1).2]; decide
          have e := fr a qi qs q.2
          by_cases c : f a ≤ f m + ml a
          · exact old (Or.inr q.1) (by omega)
          · exact new qi qs q.2 (by omega)
        · exact old (Or.inr q.1) (fo a (by have := (h5 a q.1).1; omega) (Or.inl qi))
      · obtain ⟨s, hb, he⟩ := (hI a).mp q.1
        have e := fr a q.1 q.2.1 q.2.2
        by_cases c : f a ≤ f m + ml a
        · by_cases qb : bit B a = true
          · exact old (Or.inr qb) (by omega)
          · have := h7 a hb (bool_f q.2.1) (bool_f qb)
            have := hml2 a q.1
            omega
        · exact new q.1 q.2.1 q.2.2 (by omega)
  · rcases (bS c).mp qc with q | q
    · obtain ⟨r1, r2⟩ := h10 s a c ha q he
      have := fle a (by omega)
      rw [fS c q]
      refine ⟨?_, by omega⟩
      rcases r1 with r1 | r1
      · exact Or.inl ((bS a).mpr (Or.inl r1))
      · by_cases e : a = m
        · exact Or.inl ((bS a).mpr (Or.inr e))
        · exact Or.inr ((bB a).mpr (Or.inl ⟨r1, e⟩))
    · subst q
      rw [fm]
      by_cases qs : bit S a = true
      · have := h8 a c qs hm
        rw [fS a qs]
        exact ⟨Or.inl ((bS a).mpr (Or.inl qs)), by omega⟩
      · by_cases e : a = c
        · rw [e, fm]
          exact ⟨Or.inl ((bS c).mpr (Or.inr rfl)), by omega⟩
        · have qi : bit I a = true := (hI a).mpr ⟨s, by omega, he⟩
          obtain ⟨s', r1, r2, r3⟩ := hml a qi
          have := r3 s he
          rw [fr a qi qs e]
          exact ⟨Or.inr ((bB a).mpr (Or.inr ⟨qi, qs, e⟩)), by omega⟩
/-- the border is empty: all is told -/
theorem dj_end (hN : WN R) (hW : WS R) (h : DJ R g f S 0 k) (hk : k ≤ 60) : ∀ a, a < 60 → dOK R 1000000000 a g (nI (f a)) := by
  obtain ⟨⟨h1, h2, h3⟩, h4, h5, h6, h7, h8, h9, h10, h11⟩ := h
  have n0 := hN.1.2
  have b0 : ∀ j, ¬ bit 0 j = true := fun j h => by
    rw [bit_0] at h
    cases h
  have hS : ∀ a, a < 60 → f a < 1000000000 → bit S a = true := fun a ha hlt => by
    by_cases q : bit S a = true
    · exact q
    · have := h7 a ha (bool_f q) bit_0
      omega
  intro a ha
  by_cases han : a < nn R 0
  · have q := dst_of (F := 1000000000) hW hN h2 h1 (fun a ha hne hlt => by
      obtain ⟨s, c, r1, r2, r3⟩ := h9 a (Or.inl (hS a (by omega) hlt)) hne
      exact ⟨s, c, h4 c r1, r2, r3⟩) (fun s a c ha hc he hlt => (h10 s a c ha (hS c (by omega) hlt) he).2) (by decide) a han
    rcases Nat.lt_or_ge (f a) 1000000000 with r | r
    · have := q.1 r
      exact Or.inl ⟨f a, this.1, by omega, rfl⟩
    · refine Or.inr ⟨q.2 r, ?_⟩
      have : ¬ bit S a = true := fun r2 => by
        have := h6 a ha (Or.inl r2)
        omega
      rw [h7 a ha (bool_f this) bit_0]
  · have hns : ¬ bit S a = true := fun r => han (h4 a r)
    rw [h7 a ha (bool_f hns) bit_0]
    refine Or.inr ⟨fun p hp => ?_, rfl⟩
    cases p with
    | nil =>
      have e : a = g := hp
      exact han (by rw [e]; exact h2)
    | cons s p =>
      obtain ⟨c, q1, q2, -⟩ := hp
      exact han (edge_lt hW hN q2 (by omega) (by omega)).1
end ME
