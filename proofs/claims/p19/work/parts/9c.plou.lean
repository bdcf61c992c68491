/-! PLOUGHS of the reference: out, plough, pair, salt -/
def zrF (R : Nat → Int32) (B k : Nat) : Nat → Int32 := fun j => if B ≤ j ∧ j < B + k then 0 else R j
/-- a PLOUGH without a PART -/
def lpR (R : Nat → Int32) (p : Nat) : Nat → Int32 := zrF R (9426 + 13 * p + 5) 8
/-- a PLOUGH that is OUT -/
def lvR (R : Nat → Int32) (p : Nat) : Nat → Int32 := lpR (va_up R (9426 + 13 * p + 2) 1) p
/-- a new PLOUGH -/
def comR (R : Nat → Int32) (k m a b : Int32) : Nat → Int32 := va_up (va_up (va_up (va_up (va_up (zrF R (9426 + 13 * nn R 3) 13) (9426 + 13 * nn R 3 + 0) k) (9426 + 13 * nn R 3 + 1) m) (9426 + 13 * nn R 3 + 3) a) (9426 + 13 * nn R 3 + 4) b) 3 (nI (nn R 3 + 1))
section PLO
variable {sh : Sh} {d d' d0 : Dt} {z : Nat} {R R' K : Nat → Int32} {u : Bool} {N B k p : Nat}
theorem zr_0 : zrF R B 0 = R := funext fun j => if_neg (by omega)
theorem zr_s : va_up (zrF R B k) (B + k) 0 = zrF R B (k + 1) := funext fun j => by
  by_cases e : j = B + k
  · rw [e, va_up_s]
    exact (if_pos (by omega)).symm
  · rw [va_up_n e]
    unfold zrF
    by_cases h : B ≤ j ∧ j < B + k
    · rw [if_pos h, if_pos (by omega)]
    · rw [if_neg h, if_neg (by omega)]
theorem zr_in {j : Nat} (h : B ≤ j ∧ j < B + k) : zrF R B k j = 0 := if_pos h
theorem zr_out {j : Nat} (h : ¬ (B ≤ j ∧ j < B + k)) : zrF R B k j = R j := if_neg h
theorem zr_wn (h : WN R) (hB : 5 ≤ B) : ∀ k, WN (zrF R B k)
  | 0 => by rw [zr_0]; exact h
  | k + 1 => by rw [← zr_s]; exact wn_up (zr_wn h hB k) (by omega)
theorem m_lose_loop (hK : KS sh z) (hN : WN R) (hp : p < 12) : ∀ (m k fu : Nat) (d : Dt), k + m = 8 → m < fu → MFR z d0 d → RI d z (zrF R (9426 + 13 * p + 5) k) K u → Rn (f_X12_losesPart_2 N sh fu (z + 242) (nI p) (nI (5 + k)) d) (fun d' => MFR z d0 d' ∧ RI d' z (lpR R p) K u)
  | 0, k, fu, d, hk, hf, hM, hI => by
    obtain ⟨fu, rfl⟩ : ∃ q, fu = q + 1 := ⟨fu - 1, by omega⟩
    show Rn (g_X12_losesPart_2 N sh (f_X12_losesPart_2 N sh fu) (z + 242) (nI p) (nI (5 + k)) d) _
    unfold g_X12_losesPart_2 f_X12_losesPart_27
    have ek : k = 8 := by omega
    subst ek
    exact rn_t (by decide) (rn_some ⟨hM, hI⟩)
  | m + 1, k, fu, d, hk, hf, hM, hI => by
    obtain ⟨fu, rfl⟩ : ∃ q, fu = q + 1 := ⟨fu - 1, by omega⟩
    have ih := m_lose_loop hK hN hp m (k + 1) fu
    show Rn (g_X12_losesPart_2 N sh (f_X12_losesPart_2 N sh fu) (z + 242) (nI p) (nI (5 + k)) d) _
    unfold g_X12_losesPart_2
    refine rn_f (nI_ge (a := 5 + k) (b := 13) (by omega) (by decide)) ?_
    refine wrpl hK (5 + k) hp (by omega) rfl ?_
    rw [nI_1, ← Nat.add_assoc (9426 + 13 * p) 5 k]
    refine ih _ (by omega) (by omega) (hM.tr (MFR.wI (by decide) (by decide))) ?_
    have r := ri_cellG (j := 9426 + 13 * p + 5 + k) (v := 0) hI (zr_wn hN (by omega) k) (by omega) (fun s k _ q1 q2 => by omega)
    rw [zr_s] at r
    exact r
theorem m_losesPart (hN1 : 100 ≤ N) (hK : KS sh z) (hN : WN R) (hp : p < 12) (hI : RI d z R K u) : Rn (f_X12_losesPart N sh (z + 242) (nI p) d) (fun d' => MFR z d d' ∧ RI d' z (lpR R p) K u) := by
  unfold f_X12_losesPart
  refine rn_t (ks_o hK 242 12 rfl) ?_
  exact m_lose_loop hK hN hp 8 0 N d (by omega) (by omega) MFR.rf (by rw [zr_0]; exact hI)
theorem m_leaves (hN1 : 100 ≤ N) (hK : KS sh z) (hN : WN R) (hp : p < 12) (hI : RI d z R K u) : Rn (f_X12_leaves N sh (z + 242) (nI p) d) (fun d' => MFR z d d' ∧ RI d' z (lvR R p) K u) := by
  unfold f_X12_leaves
  refine rn_t (ks_o hK 242 12 rfl) ?_
  refine wrpl hK 2 hp (by decide) rfl ?_
  have r := ri_cellG (j := 9426 + 13 * p + 2) (v := 1) hI hN (by omega) (fun s k _ q1 q2 => by omega)
  refine rn_bind (m_losesPart hN1 hK (wn_up hN (by omega)) hp r) (fun d1 hd => rn_some ?_)
  exact ⟨(MFR.wI (by decide) (by decide)).tr hd.1, hd.2⟩
theorem lvR_wn (hN : WN R) : WN (lvR R p) := zr_wn (wn_up hN (by omega)) (by omega) 8
theorem lpR_n {j : Nat} (h : j < 9426 + 13 * p + 5 ∨ 9426 + 13 * p + 13 ≤ j) : lpR R p j = R j := zr_out (by omega)
theorem lvR_n {j : Nat} (h : j < 9426 + 13 * p ∨ 9426 + 13 * p + 13 ≤ j) : lvR R p j = R j := by
  unfold lvR
  rw [lpR_n (by omega), va_up_n (by omega)]
theorem lvR_k {j : Nat} (h : 9426 + 13 * p ≤ j ∧ j < 9426 + 13 * p + 5) (h2 : j ≠ 9426 + 13 * p + 2) : lvR R p j = R j := by
  unfold lvR
  rw [lpR_n (by omega), va_up_n (by omega)]
theorem lvR_2 : lvR R p (9426 + 13 * p + 2) = 1 := by
  unfold lvR
  rw [lpR_n (by omega), va_up_s]
theorem lvR_z {x : Nat} (h : 5 ≤ x ∧ x < 13) : lvR R p (9426 + 13 * p + x) = 0 := zr_in (by omega)
theorem m_comes_loop {kd mi a b : Int32} (hK : KS sh z) (hN : WN R) (hp : nn R 3 < 12) : ∀ (m k fu : Nat) (d : Dt), k + m = 13 → m < fu → MFR z d0 d → RI d z (zrF R (9426 + 13 * nn R 3) k) K true → Rn (f_X12_comes_15 N sh fu (z + 242) kd mi a b ((9426 : Int32) + (13 : Int32) * nI (nn R 3)) (nI k) d) (fun r => r.1 = nI (nn R 3) ∧ MFR z d0 r.2 ∧ RI r.2 z (comR R kd mi a b) K true)
  | 0, k, fu, d, hk, hf, hM, hI => by
    obtain ⟨fu, rfl⟩ : ∃ q, fu = q + 1 := ⟨fu - 1, by omega⟩
    show Rn (g_X12_comes_15 N sh (f_X12_comes_15 N sh fu) (z + 242) kd mi a b ((9426 : Int32) + (13 : Int32) * nI (nn R 3)) (nI k) d) _
    unfold g_X12_comes_15 f_X12_comes_39
    have ek : k = 13 := by omega
    subst ek
    refine rn_t (by decide) ?_
    have ha := ks_a hK 243 0 15642 rfl
    have w0 := zr_wn (B := 9426 + 13 * nn R 3) hN (by omega) 13
    refine r_gP hK 242 12 0 243 rfl (by decide) ?_
    refine rn_eq (q_sI ha (9426 + 13 * nn R 3 + 0) (ix_pl (nn R 3) 0) (by omega) (by decide)) ?_
    have y1 := ri_cellG (j := 9426 + 13 * nn R 3 + 0) (v := kd) hI w0 (by omega) (fun s k _ q1 q2 => by omega)
    have w1 := wn_up (j := 9426 + 13 * nn R 3 + 0) (v := kd) w0 (by omega)
    refine r_gP hK 242 12 0 243 rfl (by decide) ?_
    refine rn_eq (q_sI ha (9426 + 13 * nn R 3 + 1) (ix_pl (nn R 3) 1) (by omega) (by decide)) ?_
    have y2 := ri_cellG (j := 9426 + 13 * nn R 3 + 1) (v := mi) y1 w1 (by omega) (fun s k _ q1 q2 => by omega)
    have w2 := wn_up (j := 9426 + 13 * nn R 3 + 1) (v := mi) w1 (by omega)
    refine r_gP hK 242 12 0 243 rfl (by decide) ?_
    refine rn_eq (q_sI ha (9426 + 13 * nn R 3 + 3) (ix_pl (nn R 3) 3) (by omega) (by decide)) ?_
    have y3 := ri_cellG (j := 9426 + 13 * nn R 3 + 3) (v := a) y2 w2 (by omega) (fun s k _ q1 q2 => by omega)
    have w3 := wn_up (j := 9426 + 13 * nn R 3 + 3) (v := a) w2 (by omega)
    refine r_gP hK 242 12 0 243 rfl (by decide) ?_
    refine rn_eq (q_sI ha (9426 + 13 * nn R 3 + 4) (ix_pl (nn R 3) 4) (by omega) (by decide)) ?_
    have y4 := ri_cellG (j := 9426 + 13 * nn R 3 + 4) (v := b) y3 w3 (by omega) (fun s k _ q1 q2 => by omega)
    have w4 := wn_up (j := 9426 + 13 * nn R 3 + 4) (v := b) w3 (by omega)
    refine r_gP hK 242 12 0 243 rfl (by decide) ?_
    refine rn_eq (q_aT ha 3 rfl (by decide) (by decide)) ?_
    rw [y4.1 3 (by decide), va_up_n (by omega), va_up_n (by omega), va_up_n (by omega), va_up_n (by omega), zr_out (by omega), hN.2.2.2.1.1, nI_1]
    refine rn_eq (q_sI ha 3 rfl (by decide) (by decide)) ?_
    have y5 := ri_cellG (j := 3) (v := nI (nn R 3 + 1)) y4 w4 (by omega) (fun s k _ q1 q2 => by omega)
    refine rdg hK y5.1 3 rfl (by decide) ?_
    rw [va_up_s, nI_pred]
    refine rn_eq (m_says hK) (rn_some ⟨rfl, ?_, ri_rg y5 (RG.w242 (Or.inl rfl))⟩)
    exact hM.tr ((MFR.wI (by decide) (by decide)).tr ((MFR.wI (by decide) (by decide)).tr ((MFR.wI (by decide) (by decide)).tr ((MFR.wI (by decide) (by decide)).tr ((MFR.wI (by decide) (by decide)).tr (MFR.wI (by decide) (by decide)))))))
  | m + 1, k, fu, d, hk, hf, hM, hI => by
    obtain ⟨fu, rfl⟩ : ∃ q, fu = q + 1 := ⟨fu - 1, by omega⟩
    have ih := m_comes_loop (kd := kd) (mi := mi) (a := a) (b := b) hK hN hp m (k + 1) fu
    show Rn (g_X12_comes_15 N sh (f_X12_comes_15 N sh fu) (z + 242) kd mi a b ((9426 : Int32) + (13 : Int32) * nI (nn R 3)) (nI k) d) _
    unfold g_X12_comes_15
    refine rn_f (nI_ge (a := k) (b := 13) (by omega) (by decide)) ?_
    refine r_gP hK 242 12 0 243 rfl (by decide) ?_
    refine rn_eq (q_sI (ks_a hK 243 0 15642 rfl) (9426 + 13 * nn R 3 + k) (ix_pl (nn R 3) k) (by omega) (by decide)) ?_
    rw [nI_1]
    refine ih _ (by omega) (by omega) (hM.tr (MFR.wI (by decide) (by decide))) ?_
    have r := ri_cellG (j := 9426 + 13 * nn R 3 + k) (v := 0) hI (zr_wn hN (by omega) k) (by omega) (fun s k _ q1 q2 => by omega)
    rw [zr_s] at r
    exact r
theorem m_comes {kd mi a b : Int32} (hN1 : 100 ≤ N) (hK : KS sh z) (hN : WN R) (hp : nn R 3 < 12) (hI : RI d z R K true) : Rn (f_X12_comes N sh (z + 242) kd mi a b d) (fun r => r.1 = nI (nn R 3) ∧ MFR z d r.2 ∧ RI r.2 z (comR R kd mi a b) K true) := by
  unfold f_X12_comes
  refine rn_t (ks_o hK 242 12 rfl) ?_
  refine rdg hK hI.1 3 rfl (by decide) ?_
  rw [hN.2.2.2.1.1]
  refine rn_eq (m_pl hK) ?_
  exact m_comes_loop hK hN hp 13 0 N d (by omega) (by omega) MFR.rf (by rw [zr_0]; exact hI)
def sp_out (R : Nat → Int32) (x : Int32) : Int32 × Option (Nat → Int32) := if x < 0 ∨ nI (nn R 3) ≤ x then (-2, none) else ((if R (9426 + 13 * x.toNatClampNeg + 2) = 1 then 0 else 1), some (lvR R x.toNatClampNeg))
theorem m_out {x : Int32} (hNf : 15642 < N) (hK : KS sh z) (h : RI d z R K u) (hR : WF R) : Rn (f_X12_out N sh (z + 242) x d) (RO z R K u (sp_out R x) d) := by
  have hN := hR.1
  have n3 := hN.2.2.2.1.2
  unfold f_X12_out
  refine rn_t (ks_o hK 242 12 rfl) ?_
  refine rn_eq (ri_isPlough hK h hN) ?_
  by_cases hb : x < 0 ∨ nI (nn R 3) ≤ x
  · rw [show sp_out R x = _ from if_pos hb]
    refine rn_f (fun q => q (ite01.mpr hb)) ?_
    exact ro_refuses hK h rfl
  rw [show sp_out R x = _ from if_neg hb]
  refine rn_t (fun q => hb (ite01.mp q)) ?_
  obtain ⟨p, hp, rfl, e2⟩ := st_of (by omega) hb
  rw [e2]
  refine rn_bind (ri_keeps h hK hNf) (fun d1 hd => ?_)
  obtain ⟨x1, x2⟩ := hd
  refine rdpl hK x1.1 2 (by omega) (by decide) rfl ?_
  refine rn_bind (m_leaves (by omega) hK hN (by omega) x1) (fun d2 hd2 => ?_)
  refine ro_done hK hd2.2 (x2.tr hd2.1) ?_
  rcases (hR.2.2.2.2.1 p hp).2.2.2.1 with e | e
  · rw [e, if_neg (by decide)]
    rfl
  · rw [e, if_pos rfl]
    rfl
def sp_plough (R : Nat → Int32) (k m : Int32) : Int32 × Option (Nat → Int32) := if (k < 0 ∨ 3 < k) ∨ (m < 0 ∨ 10000 < m) then (-2, none) else if nn R 3 = 12 then (-3, none) else (nI (nn R 3), some (comR R k m (-1) (-1)))
theorem m_plough {k m : Int32} (hNf : 15642 < N) (hK : KS sh z) (h : RI d z R K u) (hR : WF R) : Rn (f_X12_plough N sh (z + 242) k m d) (RO z R K u (sp_plough R k m) d) := by
  have hN := hR.1
  have n3 := hN.2.2.2.1
  unfold f_X12_plough f_X12_plough_20
  refine rn_t (ks_o hK 242 12 rfl) ?_
  refine rn_eq m_in ?_
  by_cases h1 : k < 0 ∨ 3 < k
  · refine rn_t (ite01.mpr h1) ?_
    exact ro_refuses hK h (if_pos (Or.inl h1))
  refine rn_f (fun q => h1 (ite01.mp q)) ?_
  refine rn_eq m_in ?_
  by_cases h2 : m < 0 ∨ 10000 < m
  · refine rn_f (fun q => q (ite01.mpr h2)) ?_
    exact ro_refuses hK h (if_pos (Or.inr h2))
  refine rn_t (fun q => h2 (ite01.mp q)) ?_
  rw [show sp_plough R k m = _ from if_neg (fun q => q.elim h1 h2)]
  refine rdg hK h.1 3 rfl (by decide) ?_
  rw [n3.1]
  by_cases h6 : nn R 3 = 12
  · rw [if_pos h6]
    refine rn_f (fun q => q (by rw [h6]; rfl)) ?_
    exact ro_refuses hK h rfl
  rw [if_neg h6]
  refine rn_t (fun e => h6 (nI_inj (b := 12) e (by omega) (by decide))) ?_
  refine rn_bind (ri_keeps h hK hNf) (fun d1 hd => ?_)
  obtain ⟨x1, x2⟩ := hd
  refine rn_bind (m_comes (by omega) hK hN (by omega) x1) (fun r hr => rn_some ?_)
  exact ⟨hr.1, x2.tr hr.2.1, hr.2.2⟩
def unf (R : Nat → Int32) (p : Nat) : Int32 := if R (9426 + 13 * p + 2) = 1 then -4 else if R (9426 + 13 * p) = 4 then -6 else 0
def sp_pair (R : Nat → Int32) (x x2 m : Int32) : Int32 × Option (Nat → Int32) := if ((x < 0 ∨ nI (nn R 3) ≤ x) ∨ (x2 < 0 ∨ nI (nn R 3) ≤ x2)) ∨ x = x2 ∨ (m < 0 ∨ 10000 < m) then (-2, none) else if nn R 3 = 12 then (-3, none) else if unf R x.toNatClampNeg = 0 then (if unf R x2.toNatClampNeg = 0 then (nI (nn R 3), some (comR (lvR (lvR R x.toNatClampNeg) x2.toNatClampNeg) 4 m x x2)) else (unf R x2.toNatClampNeg, none)) else (unf R x.toNatClampNeg, none)
theorem m_unfit (hK : KS sh z) (hA : AG (d.1 (z + 243)) R) (hp : p < 12) : f_X12_unfit N sh (z + 242) (nI p) d = some (unf R p) := by
  refine rn_val ?_
  unfold f_X12_unfit f_X12_unfit_43 unf
  refine rn_t (ks_o hK 242 12 rfl) ?_
  refine rdpl hK hA 2 hp (by decide) rfl ?_
  by_cases h1 : R (9426 + 13 * p + 2) = 1
  · rw [if_pos h1]
    exact rn_f (fun q => q h1) (rn_some rfl)
  rw [if_neg h1]
  refine rn_t h1 ?_
  refine rdpl hK hA 0 hp (by decide) rfl ?_
  by_cases h2 : R (9426 + 13 * p) = 4
  · rw [if_pos h2]
    exact rn_f (fun q => q h2) (rn_some rfl)
  · rw [if_neg h2]
    exact rn_t h2 (rn_some rfl)
theorem lvR_3 : nn (lvR R p) 3 = nn R 3 := by
  unfold nn
  rw [lvR_n (by omega)]
theorem m_pair {x x2 m : Int32} (hNf : 15642 < N) (hK : KS sh z) (h : RI d z R K u) (hR : WF R) : Rn (f_X12_pair N sh (z + 242) x x2 m d) (RO z R K u (sp_pair R x x2 m) d) := by
  have hN := hR.1
  have n3 := hN.2.2.2.1
  have bad : ((x < 0 ∨ nI (nn R 3) ≤ x) ∨ (x2 < 0 ∨ nI (nn R 3) ≤ x2)) ∨ x = x2 ∨ (m < 0 ∨ 10000 < m) → Rn (f_X12_pair_32 N sh (z + 242) d) (RO z R K u (sp_pair R x x2 m) d) := fun hb => by
    rw [show sp_pair R x x2 m = _ from if_pos hb]
    exact ro_refuses hK h rfl
  unfold f_X12_pair
  refine rn_t (ks_o hK 242 12 rfl) ?_
  refine rn_eq (ri_isPlough hK h hN) ?_
  refine rn_ite (fun h1 => bad (Or.inl (Or.inl (ite01.mp h1)))) (fun h1 => ?_)
  refine rn_eq (ri_isPlough hK h hN) ?_
  refine rn_ite (fun h2 => bad (Or.inl (Or.inr (ite01.mp h2)))) (fun h2 => ?_)
  refine rn_ite (fun h3 => bad (Or.inr (Or.inl h3))) (fun h3 => ?_)
  refine rn_eq m_in ?_
  refine rn_ite (fun h4 => ?_) (fun h4 => bad (Or.inr (Or.inr (ite01.mp (Decidable.of_not_not h4)))))
  have h1 : ¬ (x < 0 ∨ nI (nn R 3) ≤ x) := fun q => h1 (ite01.mpr q)
  have h2 : ¬ (x2 < 0 ∨ nI (nn R 3) ≤ x2) := fun q => h2 (ite01.mpr q)
  rw [show sp_pair R x x2 m = _ from if_neg (fun q => q.elim (fun q => q.elim h1 h2) (fun q => q.elim h3 (fun q => h4 (ite01.mpr q))))]
  obtain ⟨p, hp, rfl, e1⟩ := st_of (by omega) h1
  obtain ⟨q, hq, rfl, e2⟩ := st_of (by omega) h2
  rw [e1, e2]
  refine rdg hK h.1 3 rfl (by decide) ?_
  rw [n3.1]
  by_cases h6 : nn R 3 = 12
  · rw [if_pos h6]
    refine rn_f (fun q => q (by rw [h6]; rfl)) ?_
    exact ro_refuses hK h rfl
  rw [if_neg h6]
  refine rn_t (fun e => h6 (nI_inj (b := 12) e (by omega) (by decide))) ?_
  refine rn_eq (m_unfit hK h.1 (by omega)) ?_
  by_cases hu : unf R p = 0
  · refine rn_f (fun q => q hu) ?_
    refine rn_eq (m_unfit hK h.1 (by omega)) ?_
    unfold f_X12_pair_79
    by_cases hv : unf R q = 0
    · refine rn_t hv ?_
      rw [if_pos hu, if_pos hv]
      refine rn_bind (ri_keeps h hK hNf) (fun d1 hd => ?_)
      obtain ⟨x1, x2⟩ := hd
      refine rn_bind (m_leaves (by omega) hK hN (by omega) x1) (fun d2 hd2 => ?_)
      refine rn_bind (m_leaves (by omega) hK (lvR_wn hN) (by omega) hd2.2) (fun d3 hd3 => ?_)
      refine rn_bind (m_comes (by omega) hK (lvR_wn (lvR_wn hN)) (by rw [lvR_3, lvR_3]; omega) hd3.2) (fun r hr => rn_some ?_)
      rw [lvR_3, lvR_3] at hr
      exact ⟨hr.1, ((x2.tr hd2.1).tr hd3.1).tr hr.2.1, hr.2.2⟩
    · refine rn_f hv ?_
      rw [if_pos hu, if_neg hv]
      exact ro_refuses hK h rfl
  · refine rn_t hu ?_
    unfold f_X12_pair_79
    refine rn_f hu ?_
    rw [if_neg hu]
    exact ro_refuses hK h rfl
def sp_salt (R : Nat → Int32) (x t : Int32) : Int32 × Option (Nat → Int32) := if (x < 0 ∨ nI (nn R 3) ≤ x) ∨ (t < 0 ∨ nI (nn R 1) ≤ t) then (-2, none) else if R (9426 + 13 * x.toNatClampNeg + 2) = 1 then (-4, none) else if R (9426 + 13 * x.toNatClampNeg) = 2 then (thin (R (16 + 9 * t.toNatClampNeg + 0)) 50, some (va_up R (16 + 9 * t.toNatClampNeg + 0) (thin (R (16 + 9 * t.toNatClampNeg + 0)) 50))) else (-6, none)
theorem m_salt {x t : Int32} (hNf : 15642 < N) (hK : KS sh z) (h : RI d z R K u) (hR : WF R) : Rn (f_X12_salt N sh (z + 242) x t d) (RO z R K u (sp_salt R x t) d) := by
  have hN := hR.1
  have n3 := hN.2.2.2.1.2
  have n1 := hN.2.1.2
  unfold f_X12_salt f_X12_salt_16
  refine rn_t (ks_o hK 242 12 rfl) ?_
  refine rn_eq (ri_isPlough hK h hN) ?_
  by_cases hb : x < 0 ∨ nI (nn R 3) ≤ x
  · refine rn_t (ite01.mpr hb) ?_
    exact ro_refuses hK h (if_pos (Or.inl hb))
  refine rn_f (fun q => hb (ite01.mp q)) ?_
  refine rn_eq (ri_isStreet hK h hN) ?_
  by_cases hb2 : t < 0 ∨ nI (nn R 1) ≤ t
  · refine rn_f (fun q => q (ite01.mpr hb2)) ?_
    exact ro_refuses hK h (if_pos (Or.inr hb2))
  refine rn_t (fun q => hb2 (ite01.mp q)) ?_
  rw [show sp_salt R x t = _ from if_neg (fun q => q.elim hb hb2)]
  obtain ⟨p, hp, rfl, e1⟩ := st_of (by omega) hb
  obtain ⟨i, hi, rfl, e2⟩ := st_of (by omega) hb2
  rw [e1, e2]
  refine rdpl hK h.1 2 (by omega) (by decide) rfl ?_
  by_cases h1 : R (9426 + 13 * p + 2) = 1
  · rw [if_pos h1]
    refine rn_f (fun q => q h1) ?_
    exact ro_refuses hK h rfl
  rw [if_neg h1]
  refine rn_t h1 ?_
  refine rn_eq (m_kindOf hK h.1 (by omega)) ?_
  by_cases h2 : R (9426 + 13 * p) = 2
  · refine rn_t h2 ?_
    rw [if_pos h2]
    refine rn_bind (ri_keeps h hK hNf) (fun d1 hd => ?_)
    obtain ⟨x1, x2⟩ := hd
    refine rn_bind (m_thins hK hN x1 hi) (fun d2 hd2 => ?_)
    refine rds hK hd2.2.1 0 (by omega) (by decide) rfl ?_
    refine ro_done hK hd2.2 (x2.tr hd2.1) ?_
    rw [va_up_s]
  · refine rn_f h2 ?_
    rw [if_neg h2]
    exact ro_refuses hK h rfl
end PLO
