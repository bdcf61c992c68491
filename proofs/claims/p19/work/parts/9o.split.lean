/-! split(): PARTS, and the reference -/
def psN (R : Nat → Int32) (p i : Nat) : Nat := if R (9642 + 3 * i + 2) = 1 then (psR R p (R (16 + 9 * nn R (9642 + 3 * i) + 0))).toNatClampNeg else 1
def miR (R : Nat → Int32) (p i : Nat) : Nat := psN R p i * tkR R p (sln R (nn R (9642 + 3 * i)))
abbrev fit (R : Nat → Int32) (p i sum : Nat) : Prop := psN R p i ≠ 0 ∧ sum + miR R p i ≤ nn R (9426 + 13 * p + 1)
/-- the DRIVES that a PLOUGH takes from i on: where it ends, its MINUTES -/
def tkF (R : Nat → Int32) (p : Nat) : Nat → Nat → Nat → Nat × Nat
  | 0, i, sum => (i, sum)
  | m + 1, i, sum => if fit R p i sum then tkF R p m (i + 1) (sum + miR R p i) else (i, sum)
def spT (R : Nat → Int32) (p i : Nat) : Nat × Nat := if R (9426 + 13 * p + 2) = 1 then (i, 0) else tkF R p (nn R 4 - i) i 0
def spF (R : Nat → Int32) : Nat → Nat
  | 0 => 0
  | p + 1 => (spT R p (spF R p)).1
def spM (R : Nat → Int32) (p : Nat) : Nat := (spT R p (spF R p)).2
def slP (R : Nat → Int32) (p a b c : Nat) : Nat → Int32 := va_up (va_up (va_up (va_up R (9426 + 13 * p + 5) 1) (9426 + 13 * p + 6) (nI a)) (9426 + 13 * p + 7) (nI b)) (9426 + 13 * p + 10) (nI c)
def slF (R : Nat → Int32) : Nat → Nat → Int32
  | 0 => R
  | p + 1 => if R (9426 + 13 * p + 2) = 1 then lpR (slF R p) p else slP (lpR (slF R p) p) p (spF R p) (spF R (p + 1) - spF R p) (spM R p)
def sp_split (R : Nat → Int32) : Int32 × Option (Nat → Int32) := if nn R 4 ≤ spF R (nn R 3) then (1, some (slF R (nn R 3))) else (0, none)
theorem rn_and {α : Type} {o : Option α} {P Q : α → Prop} (h1 : Rn o P) (h2 : Rn o Q) : Rn o (fun r => P r ∧ Q r) := by
  obtain ⟨r, e, hr⟩ := h1
  obtain ⟨r2, e2, hr2⟩ := h2
  rw [e] at e2
  cases e2
  exact ⟨r, e, hr, hr2⟩
section SPL
variable {s s' : AS} {sh : Sh} {d d' d0 : Dt} {z : Nat} {ow ow' : Nat → Nat} {R R' K : Nat → Int32} {u : Bool} {y : YL} {c N p k l a i : Nat} {q q' : BL} {v : Int32}
theorem psN_le : psN R p i ≤ 3 := by
  unfold psN
  split
  · rcases psR_v (R := R) (p := p) (v := R (16 + 9 * nn R (9642 + 3 * i) + 0)) with e | e | e | e <;> rw [e] <;> decide
  · decide
theorem psR_nI : psR R p v = nI (psR R p v).toNatClampNeg := by
  rcases psR_v (R := R) (p := p) (v := v) with e | e | e | e <;> rw [e] <;> rfl
theorem tkF_b : ∀ (m i sum : Nat), i ≤ (tkF R p m i sum).1 ∧ (tkF R p m i sum).1 ≤ i + m ∧ (sum ≤ nn R (9426 + 13 * p + 1) → (tkF R p m i sum).2 ≤ nn R (9426 + 13 * p + 1))
  | 0, i, sum => ⟨Nat.le_refl _, Nat.le_refl _, fun h => h⟩
  | m + 1, i, sum => by
    have ih := tkF_b m (i + 1) (sum + miR R p i)
    show i ≤ (if fit R p i sum then tkF R p m (i + 1) (sum + miR R p i) else (i, sum)).1 ∧ (if fit R p i sum then tkF R p m (i + 1) (sum + miR R p i) else (i, sum)).1 ≤ i + (m + 1) ∧ (sum ≤ nn R (9426 + 13 * p + 1) → (if fit R p i sum then tkF R p m (i + 1) (sum + miR R p i) else (i, sum)).2 ≤ nn R (9426 + 13 * p + 1))
    split
    · rename_i hf
      exact ⟨by omega, by omega, fun _ => ih.2.2 hf.2⟩
    · exact ⟨Nat.le_refl _, by omega, fun h => h⟩
theorem spF_b : ∀ p, spF R p ≤ nn R 4 ∧ spF R p ≤ spF R (p + 1)
  | p => by
    have h0 : spF R p ≤ nn R 4 := by
      cases p with
      | zero => exact Nat.zero_le _
      | succ p =>
        have ih := (spF_b p).1
        have t := tkF_b (R := R) (p := p) (nn R 4 - spF R p) (spF R p) 0
        show (spT R p (spF R p)).1 ≤ nn R 4
        unfold spT
        split
        · exact ih
        · omega
    refine ⟨h0, ?_⟩
    have t := tkF_b (R := R) (p := p) (nn R 4 - spF R p) (spF R p) 0
    show spF R p ≤ (spT R p (spF R p)).1
    unfold spT
    split
    · exact Nat.le_refl _
    · exact t.1
theorem spM_b : spM R p ≤ nn R (9426 + 13 * p + 1) := by
  have t := tkF_b (R := R) (p := p) (nn R 4 - spF R p) (spF R p) 0
  unfold spM spT
  split
  · exact Nat.zero_le _
  · exact t.2.2 (Nat.zero_le _)
/-- only the reference's state is touched -/
def W43 (z : Nat) (d d' : Dt) : Prop := d'.2 = d.2 ∧ ∀ a, a ≠ z + 243 → d'.1 a = d.1 a
theorem W43.rf : W43 z d d := ⟨rfl, fun _ _ => rfl⟩
theorem W43.w {k : Nat} {v : Int32} (h : W43 z d0 d) : W43 z d0 (wI d (z + 243) k v) := ⟨h.1, fun a q => (wI_n q).trans (h.2 a q)⟩
theorem W43.tr {d1 d2 : Dt} (h1 : W43 z d d1) (h2 : W43 z d1 d2) : W43 z d d2 := ⟨h2.1.trans h1.1, fun a q => (h2.2 a q).trans (h1.2 a q)⟩
theorem W43.mfr (h : W43 z d d') : MFR z d d' := ⟨by rw [h.1], by rw [h.1], fun a q => ⟨h.2 a (by omega), by rw [h.1]⟩⟩
theorem lose_loop2 (hK : KS sh z) (hN : WN R) (hp : p < 12) : ∀ (m k fu : Nat) (d : Dt), k + m = 8 → m < fu → W43 z d0 d → RI d z (zrF R (9426 + 13 * p + 5) k) K u → Rn (f_X12_losesPart_2 N sh fu (z + 242) (nI p) (nI (5 + k)) d) (fun d' => W43 z d0 d' ∧ RI d' z (lpR R p) K u)
  | 0, k, fu, d, hk, hf, hM, hI => by
    obtain ⟨fu, rfl⟩ : ∃ q, fu = q + 1 := ⟨fu - 1, by omega⟩
    show Rn (g_X12_losesPart_2 N sh (f_X12_losesPart_2 N sh fu) (z + 242) (nI p) (nI (5 + k)) d) _
    unfold g_X12_losesPart_2 f_X12_losesPart_27
    have ek : k = 8 := by omega
    subst ek
    exact rn_t (by decide) (rn_some ⟨hM, hI⟩)
  | m + 1, k, fu, d, hk, hf, hM, hI => by
    obtain ⟨fu, rfl⟩ : ∃ q, fu = q + 1 := ⟨fu - 1, by omega⟩
    have ih := lose_loop2 hK hN hp m (k + 1) fu
    show Rn (g_X12_losesPart_2 N sh (f_X12_losesPart_2 N sh fu) (z + 242) (nI p) (nI (5 + k)) d) _
    unfold g_X12_losesPart_2
    refine rn_f (nI_ge (a := 5 + k) (b := 13) (by omega) (by decide)) ?_
    refine wrpl hK (5 + k) hp (by omega) rfl ?_
    rw [nI_1, ← Nat.add_assoc (9426 + 13 * p) 5 k]
    refine ih _ (by omega) (by omega) hM.w ?_
    have r := ri_cellG (j := 9426 + 13 * p + 5 + k) (v := 0) hI (zr_wn hN (by omega) k) (by omega) (fun s k _ q1 q2 => by omega)
    rw [zr_s] at r
    exact r
theorem m_losesPart2 (hN1 : 100 ≤ N) (hK : KS sh z) (hN : WN R) (hp : p < 12) (hI : RI d z R K u) : Rn (f_X12_losesPart N sh (z + 242) (nI p) d) (fun d' => W43 z d d' ∧ RI d' z (lpR R p) K u) := by
  unfold f_X12_losesPart
  refine rn_t (ks_o hK 242 12 rfl) ?_
  exact lose_loop2 hK hN hp 8 0 N d (by omega) (by omega) W43.rf (by rw [zr_0]; exact hI)
theorem wd_at (hR : WF R) (hi : i < nn R 4) : nn R (9642 + 3 * i) < nn R 1 ∧ R (9642 + 3 * i) = nI (nn R (9642 + 3 * i)) ∧ (R (9642 + 3 * i + 2) = 0 ∨ R (9642 + 3 * i + 2) = 1) := by
  have h := wd_e hR hi
  obtain ⟨t, c, h1, h2, h3, h4, h5⟩ := hR.2.2.2.2.2 i hi
  exact ⟨h.1, h.2, h5⟩
/-- MINUTES of a DRIVE as the reference has them -/
def mnI (R : Nat → Int32) (p i : Nat) : Int32 := if psN R p i = 0 then -1 else nI (miR R p i)
theorem mi_b (hR : WF R) (hi : i < nn R 4) : miR R p i ≤ 33000 := by
  have h := wd_at hR hi
  obtain ⟨-, ⟨-, -, l3⟩, -⟩ := hR.2.2.1 _ h.1
  have t := tkR_b (R := R) (p := p) l3
  have s := psN_le (R := R) (p := p) (i := i)
  unfold miR
  calc psN R p i * tkR R p (sln R (nn R (9642 + 3 * i))) ≤ 3 * 11000 := Nat.mul_le_mul s t
    _ = 33000 := rfl
theorem m_minutes (hR : WF R) (hK : KS sh z) (hA : AG (d.1 (z + 243)) R) (hp : p < nn R 3) (hi : i < nn R 4) : Rn (f_X12_minutes N sh (z + 242) (nI p) (nI i) d) (fun r => r.1 = mnI R p i ∧ RG z d r.2) := by
  have hN := hR.1
  have n4 := hN.2.2.2.2.2
  have n1 := hN.2.1.2
  have hW := wpk_of hR
  obtain ⟨w1, w2, w3⟩ := wd_at hR hi
  obtain ⟨-, ⟨l1, l2, l3⟩, -⟩ := hR.2.2.1 _ w1
  unfold f_X12_minutes f_X12_minutes_90 mnI miR
  refine rn_t (ks_o hK 242 12 rfl) ?_
  refine rdd0 hK hA (by omega) ?_
  rw [w2]
  refine rn_eq (m_st hK) ?_
  refine rdd hK hA (by omega) 2 (by decide) rfl ?_
  rcases w3 with e | e
  · have e1 : psN R p i = 1 := if_neg (by rw [e]; decide)
    rw [e1, if_neg (show ¬ (1 : Nat) = 0 by decide), Nat.one_mul]
    refine rn_f (fun q => q e) ?_
    refine rst hK hA 6 (by omega) (by decide) rfl ?_
    rw [l1]
    refine rn_bind (m_takes hK hN hW hA hp l3 l2) (fun r hr => rn_some hr)
  · have e1 : psN R p i = (psR R p (R (16 + 9 * nn R (9642 + 3 * i) + 0))).toNatClampNeg := if_pos e
    refine rn_t (by rw [e]; decide) ?_
    refine rst hK hA 0 (by omega) (by decide) rfl ?_
    refine rn_bind (m_passes hK hN hW hA hp) (fun r hr => ?_)
    have e2 := psR_nI (R := R) (p := p) (v := R (16 + 9 * nn R (9642 + 3 * i) + 0))
    rw [← e1] at e2
    rw [hr.1, e2]
    have s := psN_le (R := R) (p := p) (i := i)
    by_cases h0 : psN R p i = 0
    · rw [h0, if_pos rfl]
      exact rn_f (fun q => q rfl) (rn_some ⟨rfl, hr.2⟩)
    · rw [if_neg h0]
      refine rn_t (nI_ne0 (by omega) (by omega)) ?_
      refine rst hK (hr.2.ag hA) 6 (by omega) (by decide) rfl ?_
      rw [l1]
      refine rn_bind (m_takes hK hN hW (hr.2.ag hA) hp l3 l2) (fun r2 hr2 => rn_some ⟨?_, hr.2.tr hr2.2⟩)
      rw [hr2.1]
      exact pk_mul _ _
/-- what the first p PLOUGHS took -/
def SPA (d : Dt) (z : Nat) (R : Nat → Int32) (p : Nat) : Prop := ∀ p', p' < p → d.1 (z + 261) p' = nI (spF R p') ∧ d.1 (z + 262) p' = nI (spF R (p' + 1)) ∧ d.1 (z + 263) p' = nI (spM R p')
theorem spa_rg (h : SPA d z R p) (hd : RG z d d') : SPA d' z R p := fun p' hp' => by
  rw [hd.2.1 (z + 261) (by omega) (by omega), hd.2.1 (z + 262) (by omega) (by omega), hd.2.1 (z + 263) (by omega) (by omega)]
  exact h p' hp'
theorem wp_min (hR : WF R) (hp : p < nn R 3) : R (9426 + 13 * p + 1) = nI (nn R (9426 + 13 * p + 1)) ∧ nn R (9426 + 13 * p + 1) ≤ 10000 ∧ (R (9426 + 13 * p + 2) = 0 ∨ R (9426 + 13 * p + 2) = 1) := by
  obtain ⟨-, -, h1, h2, -⟩ := hR.2.2.2.2.1 p hp
  exact ⟨h1.1, h1.2, h2⟩
theorem ms_end {Q : Int32 × Dt → Prop} {k4 : Nat → Int32 → Int32 → Dt → Option (Int32 × Dt)} (hK : KS sh z) (hp : p < 12) (hI : RI d z R K u) (hM : MFR z d0 d) (hS : SPA d z R p) (h1 : d.1 (z + 261) p = nI (spF R p)) (h3 : d.1 (z + 263) p = nI (spM R p)) (hk : ∀ d', MFR z d0 d' → RI d' z R K u → SPA d' z R (p + 1) → Rn (k4 (z + 242) (nI (spF R (p + 1))) (nI (p + 1)) d') Q) : Rn (f_X12_split_140 N sh k4 (z + 242) (nI (spF R (p + 1))) (nI p) d) Q := by
  unfold f_X12_split_140
  refine r_gP hK 242 12 30 262 rfl (by decide) ?_
  refine rn_eq (q_sI (ks_a hK 262 0 12 rfl) p rfl hp (by decide)) ?_
  rw [nI_1]
  refine hk _ (hM.tr (MFR.wI (by decide) (by decide))) (ri_o hI (by decide) (by decide)) (fun p' hp' => ?_)
  rw [wI_n (show z + 261 ≠ z + 262 by omega), wI_n (show z + 263 ≠ z + 262 by omega), wI_s]
  by_cases e : p' = p
  · subst e
    rw [va_up_s]
    exact ⟨h1, rfl, h3⟩
  · rw [va_up_n e]
    exact hS p' (by omega)
theorem ms_in {Q : Int32 × Dt → Prop} {k4 : Nat → Int32 → Int32 → Dt → Option (Int32 × Dt)} (hR : WF R) (hK : KS sh z) (hp : p < nn R 3) (hk : ∀ d', MFR z d0 d' → RI d' z R K u → SPA d' z R (p + 1) → Rn (k4 (z + 242) (nI (spF R (p + 1))) (nI (p + 1)) d') Q) : ∀ (m i sum fu : Nat) (d : Dt), i + m = nn R 4 → m + 1 < fu → sum ≤ nn R (9426 + 13 * p + 1) → tkF R p m i sum = (spF R (p + 1), spM R p) → MFR z d0 d → RI d z R K u → SPA d z R p → d.1 (z + 261) p = nI (spF R p) → d.1 (z + 263) p = nI sum → Rn (f_X12_split_49 N sh k4 fu (z + 242) (nI i) (nI p) 1 d) Q
  | m, i, sum, fu, d, hi, hf, hs, ht, hM, hI, hS, h1, h3 => by
    obtain ⟨fu, rfl⟩ : ∃ q, fu = q + 1 := ⟨fu - 1, by omega⟩
    show Rn (g_X12_split_49 N sh k4 (f_X12_split_49 N sh k4 fu) (z + 242) (nI i) (nI p) 1 d) _
    have n4 := hR.1.2.2.2.2
    have n3 := hR.1.2.2.2.1.2
    obtain ⟨w1, w2, w3⟩ := wp_min hR hp
    unfold g_X12_split_49
    refine rn_f (by decide) ?_
    refine rdg hK hI.1 4 rfl (by decide) ?_
    rw [n4.1]
    cases m with
    | zero =>
      refine rn_t (nI_le (by omega) (by omega)) ?_
      have e : (i, sum) = (spF R (p + 1), spM R p) := ht
      injection e with e1 e2
      rw [e1]
      exact ms_end hK (by omega) hI hM hS h1 (by rw [h3, e2]) hk
    | succ m =>
      refine rn_f (nI_ge (by omega) (by omega)) ?_
      have hi4 : i < nn R 4 := by omega
      refine rn_bind (m_minutes hR hK hI.1 hp hi4) (fun r hr => ?_)
      have hI1 := ri_rg hI hr.2
      have hM1 := hM.tr hr.2.mfr
      have hS1 := spa_rg hS hr.2
      have h11 : r.2.1 (z + 261) p = nI (spF R p) := by rw [hr.2.2.1 _ (by omega) (by omega)]; exact h1
      have h31 : r.2.1 (z + 263) p = nI sum := by rw [hr.2.2.1 _ (by omega) (by omega)]; exact h3
      have hmb := mi_b (p := p) hR hi4
      have a263 := ks_a hK 263 0 12 rfl
      have no : ¬ fit R p i sum → ∀ w, Rn (f_X12_split_104 N sh k4 (f_X12_split_49 N sh k4 fu) (z + 242) (nI i) (nI p) w r.2) Q := fun hn w => by
        have e : (i, sum) = (spF R (p + 1), spM R p) := (if_neg hn).symm.trans ht
        injection e with e1 e2
        unfold f_X12_split_104 f_X12_split_105 f_X12_split_123 f_X12_split_135
        refine r_gP hK 242 12 31 263 rfl (by decide) ?_
        refine rn_eq (q_aT a263 p rfl (by omega) (by decide)) ?_
        refine rn_t rfl ?_
        refine rn_eq (q_sI a263 p rfl (by omega) (by decide)) ?_
        refine rn_t rfl ?_
        rw [h31, show nI sum + 0 = nI sum from nI_add sum 0, show nI i + 0 = nI i from nI_add i 0]
        obtain ⟨fu, rfl⟩ : ∃ q, fu = q + 1 := ⟨fu - 1, by omega⟩
        show Rn (g_X12_split_49 N sh k4 (f_X12_split_49 N sh k4 fu) (z + 242) (nI i) (nI p) 0 _) _
        unfold g_X12_split_49
        refine rn_t rfl ?_
        rw [e1]
        refine ms_end hK (by omega) (ri_o hI1 (by decide) (by decide)) (hM1.tr (MFR.wI (by decide) (by decide))) (fun p' hp' => ?_) ?_ ?_ hk
        · rw [wI_n (show z + 261 ≠ z + 263 by omega), wI_n (show z + 262 ≠ z + 263 by omega), wI_s, va_up_n (by omega)]
          exact hS1 p' hp'
        · rw [wI_n (by omega)]
          exact h11
        · rw [wI_s, va_up_s, e2]
      rw [hr.1]
      unfold mnI
      by_cases h0 : psN R p i = 0
      · rw [if_pos h0]
        refine rn_t (by decide) ?_
        exact no (fun q => q.1 h0) _
      rw [if_neg h0]
      refine rn_f (nI_pos (by omega)) ?_
      refine r_gP hK 242 12 31 263 rfl (by decide) ?_
      refine rn_eq (q_aT a263 p rfl (by omega) (by decide)) ?_
      rw [h31, nI_add]
      refine rdpl hK hI1.1 1 (by omega) (by decide) rfl ?_
      rw [w1]
      refine rn_ite (fun h5 => ?_) (fun h5 => ?_)
      · exact no (fun q => by
          have := (nI_ltI (by omega) (by omega)).mp h5
          have := q.2
          omega) _
      have hfit : fit R p i sum := ⟨h0, by
        rcases Nat.lt_or_ge (nn R (9426 + 13 * p + 1)) (sum + miR R p i) with q | q
        · exact absurd (nI_lt q (by omega)) h5
        · exact q⟩
      have ih := ms_in hR hK hp hk m (i + 1) (sum + miR R p i) fu
      unfold f_X12_split_105 f_X12_split_123 f_X12_split_135
      refine r_gP hK 242 12 31 263 rfl (by decide) ?_
      refine rn_eq (q_aT a263 p rfl (by omega) (by decide)) ?_
      refine rn_f (by decide) ?_
      refine rn_eq (q_sI a263 p rfl (by omega) (by decide)) ?_
      refine rn_f (by decide) ?_
      rw [h31, nI_add, nI_1]
      refine ih _ (by omega) (by omega) hfit.2 ((if_pos hfit).symm.trans ht) (hM1.tr (MFR.wI (by decide) (by decide))) (ri_o hI1 (by decide) (by decide)) (fun p' hp' => ?_) ?_ ?_
      · rw [wI_n (show z + 261 ≠ z + 263 by omega), wI_n (show z + 262 ≠ z + 263 by omega), wI_s, va_up_n (by omega)]
        exact hS1 p' hp'
      · rw [wI_n (by omega)]
        exact h11
      · rw [wI_s, va_up_s]
theorem slP_n {j x y' w : Nat} (h : j < 9426 + 13 * p + 5 ∨ 9426 + 13 * p + 11 ≤ j) : slP R p x y' w j = R j := by
  unfold slP
  rw [va_up_n (by omega), va_up_n (by omega), va_up_n (by omega), va_up_n (by omega)]
theorem slF_n {j : Nat} (h : j < 9426) : ∀ p, slF R p j = R j
  | 0 => rfl
  | p + 1 => by
    show (if R (9426 + 13 * p + 2) = 1 then lpR (slF R p) p else slP (lpR (slF R p) p) p (spF R p) (spF R (p + 1) - spF R p) (spM R p)) j = R j
    split
    · rw [lpR_n (by omega)]
      exact slF_n h p
    · rw [slP_n (by omega), lpR_n (by omega)]
      exact slF_n h p
theorem slF_hi {j : Nat} : ∀ p, 9426 + 13 * p ≤ j → slF R p j = R j
  | 0, _ => rfl
  | p + 1, h => by
    show (if R (9426 + 13 * p + 2) = 1 then lpR (slF R p) p else slP (lpR (slF R p) p) p (spF R p) (spF R (p + 1) - spF R p) (spM R p)) j = R j
    split
    · rw [lpR_n (by omega)]
      exact slF_hi p (by omega)
    · rw [slP_n (by omega), lpR_n (by omega)]
      exact slF_hi p (by omega)
theorem slF_wn (hN : WN R) : WN (slF R p) := by
  have e : ∀ j, j < 5 → slF R p j = R j := fun j hj => slF_n (by omega) p
  have en : ∀ j, j < 5 → nn (slF R p) j = nn R j := fun j hj => by unfold nn; rw [e j hj]
  unfold WN
  rw [e 0 (by omega), e 1 (by omega), e 2 (by omega), e 3 (by omega), e 4 (by omega), en 0 (by omega), en 1 (by omega), en 2 (by omega), en 3 (by omega), en 4 (by omega)]
  exact hN
theorem ms_put (hNf : 15642 < N) (hK : KS sh z) (hR : WF R) : ∀ (m p fu : Nat) (d : Dt), p + m = nn R 3 → m < fu → MFR z d0 d → RI d z (slF R p) R true → SPA d z R (nn R 3) → Rn (f_X12_split_175 N sh fu (z + 242) (nI p) d) (RO z R K u (1, some (slF R (nn R 3))) d0)
  | 0, p, fu, d, hp, hf, hM, hI, hS => by
    obtain ⟨fu, rfl⟩ : ∃ q, fu = q + 1 := ⟨fu - 1, by omega⟩
    show Rn (g_X12_split_175 N sh (f_X12_split_175 N sh fu) (z + 242) (nI p) d) _
    have n3 := hR.1.2.2.2.1
    unfold g_X12_split_175 f_X12_split_288
    refine rdg hK hI.1 3 rfl (by decide) ?_
    rw [slF_n (by decide), n3.1]
    refine rn_t (nI_le (by omega) (by omega)) ?_
    have e : p = nn R 3 := by omega
    subst e
    exact ro_done hK hI hM rfl
  | m + 1, p, fu, d, hp, hf, hM, hI, hS => by
    obtain ⟨fu, rfl⟩ : ∃ q, fu = q + 1 := ⟨fu - 1, by omega⟩
    have ih := ms_put hNf hK hR m (p + 1) fu
    show Rn (g_X12_split_175 N sh (f_X12_split_175 N sh fu) (z + 242) (nI p) d) _
    have n3 := hR.1.2.2.2.1
    have hp3 : p < nn R 3 := by omega
    have wn := slF_wn (R := R) (p := p) hR.1
    unfold g_X12_split_175 f_X12_split_282
    refine rdg hK hI.1 3 rfl (by decide) ?_
    rw [slF_n (by decide), n3.1]
    refine rn_f (nI_ge (by omega) (by omega)) ?_
    refine rn_bind (m_losesPart2 (by omega) hK wn (by omega) hI) (fun d1 hd => ?_)
    obtain ⟨w1, w2⟩ := hd
    have hS1 : SPA d1 z R (nn R 3) := fun p' hp' => by
      rw [w1.2 (z + 261) (by omega), w1.2 (z + 262) (by omega), w1.2 (z + 263) (by omega)]
      exact hS p' hp'
    refine rdpl hK w2.1 2 (by omega) (by decide) rfl ?_
    rw [lpR_n (by omega), slF_hi p (by omega), nI_1]
    have hout := (wp_min hR hp3).2.2
    obtain ⟨s1, s2, s3⟩ := hS1 p hp3
    have b := spF_b (R := R) p
    have b2 := spF_b (R := R) (p + 1)
    by_cases h : R (9426 + 13 * p + 2) = 1
    · refine rn_t (by rw [h]; decide) ?_
      have e : slF R (p + 1) = lpR (slF R p) p := if_pos h
      refine ih d1 (by omega) (by omega) (hM.tr w1.mfr) ?_ hS1
      rw [e]
      exact w2
    · refine rn_f (fun q => q (hout.resolve_right h)) ?_
      have e : slF R (p + 1) = slP (lpR (slF R p) p) p (spF R p) (spF R (p + 1) - spF R p) (spM R p) := if_neg h
      have wl : WN (lpR (slF R p) p) := zr_wn wn (by omega) 8
      refine wrpl hK 5 (by omega) (by decide) rfl ?_
      have r1 := ri_cellG (j := 9426 + 13 * p + 5) (v := 1) w2 wl (by omega) (fun s k _ q1 q2 => by omega)
      have wl1 := wn_up (j := 9426 + 13 * p + 5) (v := 1) wl (by omega)
      refine r_gP hK 242 12 0 243 rfl (by decide) ?_
      refine rn_eq (m_pl hK) ?_
      refine r_gP hK 242 12 29 261 rfl (by decide) ?_
      refine rn_eq (q_aT (ks_a hK 261 0 12 rfl) p rfl (by omega) (by decide)) ?_
      rw [wI_n (show z + 261 ≠ z + 243 by omega), s1]
      refine rn_eq (q_sI (ks_a hK 243 0 15642 rfl) (9426 + 13 * p + 6) (ix_pl p 6) (by omega) (by decide)) ?_
      have r2 := ri_cellG (j := 9426 + 13 * p + 6) (v := nI (spF R p)) r1 wl1 (by omega) (fun s k _ q1 q2 => by omega)
      have wl2 := wn_up (j := 9426 + 13 * p + 6) (v := nI (spF R p)) wl1 (by omega)
      refine r_gP hK 242 12 0 243 rfl (by decide) ?_
      refine rn_eq (m_pl hK) ?_
      refine r_gP hK 242 12 30 262 rfl (by decide) ?_
      refine rn_eq (q_aT (ks_a hK 262 0 12 rfl) p rfl (by omega) (by decide)) ?_
      refine r_gP hK 242 12 29 261 rfl (by decide) ?_
      refine rn_eq (q_aT (ks_a hK 261 0 12 rfl) p rfl (by omega) (by decide)) ?_
      rw [wI_n (show z + 262 ≠ z + 243 by omega), wI_n (show z + 262 ≠ z + 243 by omega), wI_n (show z + 261 ≠ z + 243 by omega), wI_n (show z + 261 ≠ z + 243 by omega), s1, s2, pk_sub b.2]
      refine rn_eq (q_sI (ks_a hK 243 0 15642 rfl) (9426 + 13 * p + 7) (ix_pl p 7) (by omega) (by decide)) ?_
      have r3 := ri_cellG (j := 9426 + 13 * p + 7) (v := nI (spF R (p + 1) - spF R p)) r2 wl2 (by omega) (fun s k _ q1 q2 => by omega)
      have wl3 := wn_up (j := 9426 + 13 * p + 7) (v := nI (spF R (p + 1) - spF R p)) wl2 (by omega)
      refine r_gP hK 242 12 0 243 rfl (by decide) ?_
      refine rn_eq (m_pl hK) ?_
      refine r_gP hK 242 12 31 263 rfl (by decide) ?_
      refine rn_eq (q_aT (ks_a hK 263 0 12 rfl) p rfl (by omega) (by decide)) ?_
      rw [wI_n (show z + 263 ≠ z + 243 by omega), wI_n (show z + 263 ≠ z + 243 by omega), wI_n (show z + 263 ≠ z + 243 by omega), s3]
      refine rn_eq (q_sI (ks_a hK 243 0 15642 rfl) (9426 + 13 * p + 10) (ix_pl p 10) (by omega) (by decide)) ?_
      have r4 := ri_cellG (j := 9426 + 13 * p + 10) (v := nI (spM R p)) r3 wl3 (by omega) (fun s k _ q1 q2 => by omega)
      have w4 : W43 z d1 (wI (wI (wI (wI d1 (z + 243) (9426 + 13 * p + 5) 1) (z + 243) (9426 + 13 * p + 6) (nI (spF R p))) (z + 243) (9426 + 13 * p + 7) (nI (spF R (p + 1) - spF R p))) (z + 243) (9426 + 13 * p + 10) (nI (spM R p))) := W43.rf.w.w.w.w
      refine ih _ (by omega) (by omega) (hM.tr (w1.mfr.tr w4.mfr)) ?_ (fun p' hp' => ?_)
      · rw [e]
        exact r4
      · rw [w4.2 (z + 261) (by omega), w4.2 (z + 262) (by omega), w4.2 (z + 263) (by omega)]
        exact hS1 p' hp'
theorem ms_out (hNf : 15642 < N) (hK : KS sh z) (hR : WF R) : ∀ (m p fu : Nat) (d : Dt), p + m = nn R 3 → m < fu → MFR z d0 d → RI d z R K u → SPA d z R p → Rn (f_X12_split_4 N sh fu (z + 242) (nI (spF R p)) (nI p) d) (RO z R K u (sp_split R) d0)
  | 0, p, fu, d, hp, hf, hM, hI, hS => by
    obtain ⟨fu, rfl⟩ : ∃ q, fu = q + 1 := ⟨fu - 1, by omega⟩
    show Rn (g_X12_split_4 N sh (f_X12_split_4 N sh fu) (z + 242) (nI (spF R p)) (nI p) d) _
    have n3 := hR.1.2.2.2.1
    have n4 := hR.1.2.2.2.2
    unfold g_X12_split_4 f_X12_split_153
    refine rdg hK hI.1 3 rfl (by decide) ?_
    rw [n3.1]
    refine rn_t (nI_le (by omega) (by omega)) ?_
    have e : p = nn R 3 := by omega
    subst e
    refine rdg hK hI.1 4 rfl (by decide) ?_
    rw [n4.1]
    have b := spF_b (R := R) (nn R 3)
    by_cases h : nn R 4 ≤ spF R (nn R 3)
    · rw [show sp_split R = _ from if_pos h]
      refine rn_t (nI_le h (by omega)) ?_
      have hm := m_keeps (sh := sh) (d := d) (z := z) (N := N) hK hNf rfl
      refine rn_bind (rn_and (ri_keeps hI hK hNf) ⟨_, hm, rfl⟩) (fun d1 hd => ?_)
      obtain ⟨⟨x1, x2⟩, x3⟩ := hd
      refine ms_put (u := u) (K := K) hNf hK hR (nn R 3) 0 N d1 (by omega) (by omega) (hM.tr x2) x1 (fun p' hp' => ?_)
      have row : ∀ i, i = 261 ∨ i = 262 ∨ i = 263 → d1.1 (z + i) = d.1 (z + i) := fun i hi => by
        rw [← x3]
        show (wI _ (z + 242) 2 1).1 (z + i) = _
        rw [wI_n (by omega)]
        exact va_up_n (by omega)
      rw [row 261 (by decide), row 262 (by decide), row 263 (by decide)]
      exact hS p' hp'
    · rw [show sp_split R = _ from if_neg h]
      refine rn_f (nI_ge (by omega) (by omega)) ?_
      refine rn_eq (m_says hK) (rn_some ⟨rfl, hM.tr (MFR.wI (by decide) (by decide)), ri_rg hI (RG.w242 (Or.inl rfl))⟩)
  | m + 1, p, fu, d, hp, hf, hM, hI, hS => by
    obtain ⟨fu, rfl⟩ : ∃ q, fu = q + 1 := ⟨fu - 1, by omega⟩
    have ih := ms_out hNf hK hR m (p + 1) fu
    show Rn (g_X12_split_4 N sh (f_X12_split_4 N sh fu) (z + 242) (nI (spF R p)) (nI p) d) _
    have n3 := hR.1.2.2.2.1
    have n4 := hR.1.2.2.2.2
    have hp3 : p < nn R 3 := by omega
    have b := spF_b (R := R) p
    unfold g_X12_split_4 f_X12_split_48
    refine rdg hK hI.1 3 rfl (by decide) ?_
    rw [n3.1]
    refine rn_f (nI_ge (by omega) (by omega)) ?_
    refine r_gP hK 242 12 29 261 rfl (by decide) ?_
    refine rn_eq (q_sI (ks_a hK 261 0 12 rfl) p rfl (by omega) (by decide)) ?_
    refine r_gP hK 242 12 31 263 rfl (by decide) ?_
    refine rn_eq (q_sI (ks_a hK 263 0 12 rfl) p rfl (by omega) (by decide)) ?_
    have i1 := ri_o (i := 263) (k := p) (v := 0) (ri_o (i := 261) (k := p) (v := nI (spF R p)) hI (by decide) (by decide)) (by decide) (by decide)
    have m1 : MFR z d0 (wI (wI d (z + 261) p (nI (spF R p))) (z + 263) p 0) := hM.tr ((MFR.wI (by decide) (by decide)).tr (MFR.wI (by decide) (by decide)))
    have s1 : SPA (wI (wI d (z + 261) p (nI (spF R p))) (z + 263) p 0) z R p := fun p' hp' => by
      rw [wI_n (show z + 261 ≠ z + 263 by omega), wI_s, va_up_n (by omega), wI_n (show z + 262 ≠ z + 263 by omega), wI_n (show z + 262 ≠ z + 261 by omega), wI_s, va_up_n (by omega), wI_n (show z + 263 ≠ z + 261 by omega)]
      exact hS p' hp'
    have h1 : (wI (wI d (z + 261) p (nI (spF R p))) (z + 263) p 0).1 (z + 261) p = nI (spF R p) := by
      rw [wI_n (by omega), wI_s, va_up_s]
    have h3 : (wI (wI d (z + 261) p (nI (spF R p))) (z + 263) p 0).1 (z + 263) p = 0 := by
      rw [wI_s, va_up_s]
    refine rdpl hK i1.1 2 (by omega) (by decide) rfl ?_
    have hk : ∀ d', MFR z d0 d' → RI d' z R K u → SPA d' z R (p + 1) → Rn (f_X12_split_4 N sh fu (z + 242) (nI (spF R (p + 1))) (nI (p + 1)) d') (RO z R K u (sp_split R) d0) := fun d' a1 a2 a3 => ih d' (by omega) (by omega) a1 a2 a3
    have hout := (wp_min hR hp3).2.2
    by_cases h : R (9426 + 13 * p + 2) = 1
    · refine rn_t (by rw [h]; decide) ?_
      have eF : spF R (p + 1) = spF R p := by
        show (spT R p (spF R p)).1 = _
        unfold spT
        rw [if_pos h]
      have eM : spM R p = 0 := by
        unfold spM spT
        rw [if_pos h]
      obtain ⟨N, rfl⟩ : ∃ q, N = q + 1 := ⟨N - 1, by omega⟩
      show Rn (g_X12_split_49 (N + 1) sh (f_X12_split_4 (N + 1) sh fu) (f_X12_split_49 (N + 1) sh (f_X12_split_4 (N + 1) sh fu) N) (z + 242) (nI (spF R p)) (nI p) 0 _) _
      unfold g_X12_split_49
      refine rn_t rfl ?_
      have q := ms_end (N := N + 1) hK (by omega) i1 m1 s1 h1 (by rw [h3, eM]; rfl) hk
      rw [eF] at q
      exact q
    · refine rn_f (fun q => q (hout.resolve_right h)) ?_
      refine ms_in hR hK hp3 hk (nn R 4 - spF R p) (spF R p) 0 N _ (by omega) (by omega) (Nat.zero_le _) ?_ m1 i1 s1 h1 h3
      have e : spT R p (spF R p) = tkF R p (nn R 4 - spF R p) (spF R p) 0 := if_neg h
      rw [← e]
      rfl
theorem m_split (hNf : 15642 < N) (hK : KS sh z) (h : RI d z R K u) (hR : WF R) : Rn (f_X12_split N sh (z + 242) d) (RO z R K u (sp_split R) d) := by
  have n3 := hR.1.2.2.2.1.2
  unfold f_X12_split
  refine rn_t (ks_o hK 242 12 rfl) ?_
  exact ms_out hNf hK hR (nn R 3) 0 N d (by omega) (by omega) MFR.rf h (fun p' hp' => absurd hp' (Nat.not_lt_zero p'))
end SPL
