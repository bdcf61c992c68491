/-! copy(), copies() -/
def cpR (R : Nat → Int32) (F T n : Nat) : Nat → Int32 := fun j => if 1426 + T ≤ j ∧ j < 1426 + T + n then R (1426 + F + (j - (1426 + T))) else if 5426 + T ≤ j ∧ j < 5426 + T + n then R (5426 + F + (j - (5426 + T))) else R j
/-- what bars the copying; 0: nothing -/
abbrev mis (R : Nat → Int32) (f t : Nat) : Prop := R (1366 + 3 * f + 2) = -1 ∨ R (1366 + 3 * t + 2) = -1
abbrev okc (R : Nat → Int32) (f : Nat) (i : Int32) (t : Nat) (j n : Int32) : Prop := 0 ≤ i.toInt ∧ 0 ≤ j.toInt ∧ 0 ≤ n.toInt ∧ i.toInt + n.toInt ≤ (nn R (1366 + 3 * f + 2) : Int) ∧ j.toInt + n.toInt ≤ (nn R (1366 + 3 * t + 2) : Int)
def agn (R : Nat → Int32) (f : Nat) (i : Int32) (t : Nat) (j n : Int32) : Int32 := if mis R f t then -4 else if okc R f i t j n then 0 else -5
section CPY
variable {s s' : AS} {sh : Sh} {d d' d0 : Dt} {z : Nat} {ow ow' : Nat → Nat} {R R' K : Nat → Int32} {u : Bool} {y : YL} {c N f t F T n k : Nat} {q q' : BL}
theorem agn_m {i j m : Int32} (h : mis R f t) : agn R f i t j m = -4 := if_pos h
theorem agn_n {i j m : Int32} (h : ¬ mis R f t) (h2 : ¬ okc R f i t j m) : agn R f i t j m = -5 := (if_neg h).trans (if_neg h2)
theorem agn_y {i j m : Int32} (h : ¬ mis R f t) (h2 : okc R f i t j m) : agn R f i t j m = 0 := (if_neg h).trans (if_pos h2)
theorem cp_0 : cpR R F T 0 = R := funext fun j => by
  unfold cpR
  rw [if_neg (by omega), if_neg (by omega)]
theorem cp_s (hT : T + k < 4000) : va_up (va_up (cpR R F T k) (1426 + T + k) (R (1426 + F + k))) (5426 + T + k) (R (5426 + F + k)) = cpR R F T (k + 1) := funext fun j => by
  by_cases e1 : j = 5426 + T + k
  · subst e1
    rw [va_up_s]
    unfold cpR
    rw [if_neg (by omega), if_pos (by omega), show 5426 + F + (5426 + T + k - (5426 + T)) = 5426 + F + k by omega]
  rw [va_up_n e1]
  by_cases e2 : j = 1426 + T + k
  · subst e2
    rw [va_up_s]
    unfold cpR
    rw [if_pos (by omega), show 1426 + F + (1426 + T + k - (1426 + T)) = 1426 + F + k by omega]
  rw [va_up_n e2]
  unfold cpR
  by_cases h1 : 1426 + T ≤ j ∧ j < 1426 + T + k
  · rw [if_pos h1, if_pos (show 1426 + T ≤ j ∧ j < 1426 + T + (k + 1) by omega)]
  rw [if_neg h1, if_neg (show ¬ (1426 + T ≤ j ∧ j < 1426 + T + (k + 1)) by omega)]
  by_cases h2 : 5426 + T ≤ j ∧ j < 5426 + T + k
  · rw [if_pos h2, if_pos (show 5426 + T ≤ j ∧ j < 5426 + T + (k + 1) by omega)]
  · rw [if_neg h2, if_neg (show ¬ (5426 + T ≤ j ∧ j < 5426 + T + (k + 1)) by omega)]
theorem cp_out {j : Nat} (hT : T + n ≤ 4000) (h : j < 1426 ∨ 9426 ≤ j) : cpR R F T n j = R j := by
  unfold cpR
  rw [if_neg (by omega), if_neg (by omega)]
theorem cp_wn (hN : WN R) (hT : T + n ≤ 4000) : WN (cpR R F T n) := by
  unfold WN nn
  rw [cp_out hT (by omega), cp_out hT (by omega), cp_out hT (by omega), cp_out hT (by omega), cp_out hT (by omega)]
  exact hN
theorem ri_o {i k : Nat} {v : Int32} (h : RI d z R K u) (h1 : 242 ≤ i) (h2 : i ≠ 242 ∧ i ≠ 243 ∧ i ≠ 244 ∧ i ≠ 247) : RI (wI d (z + i) k v) z R K u := by
  obtain ⟨a1, a2, a3, a4, a5⟩ := h
  refine ⟨?_, ?_, ?_, ?_, ?_⟩
  · rw [wI_n (by omega)]; exact a1
  · rw [wI_n (by omega)]; exact a2
  · rw [wI_n (by omega)]; exact a3
  · rw [wI_n (by omega)]; exact a4
  · rw [wI_n (by omega), wI_n (by omega)]; exact a5
theorem rdga {β : Type} {Q : β → Prop} {g : Int32 → Option β} {x : Int32} {p : Nat} (hK : KS sh z) (hA : AG (d.1 (z + 243)) R) (k : Nat) (hp : p < 20) (hk : k < 3) (hx : x = nI k) (kk : Rn (g (R (1366 + 3 * p + k))) Q) : Rn ((gP sh (z + 242) 12 0).bind fun v1 => (f_X12_ga N sh (z + 242) (nI p) d).bind fun v2 => (aT 0 sh d v1 (v2 + x)).bind g) Q := by
  subst hx
  refine r_gP hK 242 12 0 243 rfl (by decide) ?_
  refine rn_eq (m_ga hK) ?_
  refine rn_eq (q_aT (ks_a hK 243 0 15642 rfl) (1366 + 3 * p + k) (ix_ga p k) (by omega) (by decide)) ?_
  rw [hA _ (by omega)]
  exact kk
theorem brg2 (hK : KS sh z) (hN : WN R) (hT : T + n ≤ 4000) (hF : F + n ≤ 4000) (hn : n ≤ 200) {tt jj : Nat} (hTe : T = 200 * tt + jj) : ∀ (m k fu : Nat) (d : Dt), k + m = n → m < fu → MFR z d0 d → RI d z (cpR R F T k) K u → (∀ x, x < n → d.1 (z + 248) x = R (1426 + F + x) ∧ d.1 (z + 248) (200 + x) = R (5426 + F + x)) → Rn (f_X12_brings_75 N sh fu (z + 242) (nI tt) (nI jj) (nI n) (nI k) d) (fun d' => MFR z d0 d' ∧ RI d' z (cpR R F T n) K u)
  | 0, k, fu, d, hk, hf, hM, hI, hs => by
    obtain ⟨fu, rfl⟩ : ∃ q, fu = q + 1 := ⟨fu - 1, by omega⟩
    show Rn (g_X12_brings_75 N sh (f_X12_brings_75 N sh fu) (z + 242) (nI tt) (nI jj) (nI n) (nI k) d) _
    unfold g_X12_brings_75 f_X12_brings_146
    have e : k = n := by omega
    subst e
    exact rn_t (nI_le (Nat.le_refl _) (by omega)) (rn_some ⟨hM, hI⟩)
  | m + 1, k, fu, d, hk, hf, hM, hI, hs => by
    obtain ⟨fu, rfl⟩ : ∃ q, fu = q + 1 := ⟨fu - 1, by omega⟩
    have ih := brg2 hK hN hT hF hn hTe m (k + 1) fu
    show Rn (g_X12_brings_75 N sh (f_X12_brings_75 N sh fu) (z + 242) (nI tt) (nI jj) (nI n) (nI k) d) _
    unfold g_X12_brings_75
    have ha := ks_a hK 243 0 15642 rfl
    have hb := ks_a hK 248 0 400 rfl
    have ix : ∀ b : Nat, ((nI b + (200 : Int32) * nI tt) + nI jj) + nI k = nI (b + T + k) := fun b => by
      rw [show (200 : Int32) = nI 200 from rfl, pk_mul, nI_add, nI_add, nI_add, hTe]
      congr 1
      omega
    refine rn_f (nI_ge (by omega) (by omega)) ?_
    refine r_gP hK 242 12 0 243 rfl (by decide) ?_
    refine r_gP hK 242 12 11 248 rfl (by decide) ?_
    refine rn_eq (q_aT hb k rfl (by omega) (by decide)) ?_
    refine rn_eq (q_sI ha (1426 + T + k) (ix 1426) (by omega) (by decide)) ?_
    refine r_gP hK 242 12 0 243 rfl (by decide) ?_
    refine r_gP hK 242 12 11 248 rfl (by decide) ?_
    refine rn_eq (q_aT hb (200 + k) (by rw [show (200 : Int32) = nI 200 from rfl, nI_add]) (by omega) (by decide)) ?_
    refine rn_eq (q_sI ha (5426 + T + k) (ix 5426) (by omega) (by decide)) ?_
    rw [nI_1, wI_n (show z + 248 ≠ z + 243 by omega), (hs k (by omega)).1, (hs k (by omega)).2]
    have w1 := cp_wn (F := F) (T := T) (n := k) hN (by omega)
    have r1 := ri_cellG (j := 1426 + T + k) (v := R (1426 + F + k)) hI w1 (by omega) (fun s k _ q1 q2 => by omega)
    have r2 := ri_cellG (j := 5426 + T + k) (v := R (5426 + F + k)) r1 (wn_up w1 (by omega)) (by omega) (fun s k _ q1 q2 => by omega)
    rw [cp_s (by omega)] at r2
    refine ih _ (by omega) (by omega) (hM.tr ((MFR.wI (by decide) (by decide)).tr (MFR.wI (by decide) (by decide)))) r2 (fun x hx => ?_)
    rw [wI_n (by omega), wI_n (by omega)]
    exact hs x hx
theorem brg1 (hK : KS sh z) (hN : WN R) (hT : T + n ≤ 4000) (hF : F + n ≤ 4000) (hn : n ≤ 200) (hn2 : 300 ≤ N) {ff ii tt jj : Nat} (hFe : F = 200 * ff + ii) (hTe : T = 200 * tt + jj) : ∀ (m k fu : Nat) (d : Dt), k + m = n → m < fu → MFR z d0 d → RI d z R K u → (∀ x, x < k → d.1 (z + 248) x = R (1426 + F + x) ∧ d.1 (z + 248) (200 + x) = R (5426 + F + x)) → Rn (f_X12_brings_3 N sh fu (z + 242) (nI ff) (nI ii) (nI tt) (nI jj) (nI n) (nI k) d) (fun d' => MFR z d0 d' ∧ RI d' z (cpR R F T n) K u)
  | 0, k, fu, d, hk, hf, hM, hI, hs => by
    obtain ⟨fu, rfl⟩ : ∃ q, fu = q + 1 := ⟨fu - 1, by omega⟩
    show Rn (g_X12_brings_3 N sh (f_X12_brings_3 N sh fu) (z + 242) (nI ff) (nI ii) (nI tt) (nI jj) (nI n) (nI k) d) _
    unfold g_X12_brings_3 f_X12_brings_72
    have e : k = n := by omega
    subst e
    refine rn_t (nI_le (Nat.le_refl _) (by omega)) ?_
    exact brg2 hK hN hT hF hn hTe k 0 N d (by omega) (by omega) hM (by rw [cp_0]; exact hI) hs
  | m + 1, k, fu, d, hk, hf, hM, hI, hs => by
    obtain ⟨fu, rfl⟩ : ∃ q, fu = q + 1 := ⟨fu - 1, by omega⟩
    have ih := brg1 hK hN hT hF hn hn2 hFe hTe m (k + 1) fu
    show Rn (g_X12_brings_3 N sh (f_X12_brings_3 N sh fu) (z + 242) (nI ff) (nI ii) (nI tt) (nI jj) (nI n) (nI k) d) _
    unfold g_X12_brings_3
    have ha := ks_a hK 243 0 15642 rfl
    have hb := ks_a hK 248 0 400 rfl
    have ix : ∀ b : Nat, ((nI b + (200 : Int32) * nI ff) + nI ii) + nI k = nI (b + F + k) := fun b => by
      rw [show (200 : Int32) = nI 200 from rfl, pk_mul, nI_add, nI_add, nI_add, hFe]
      congr 1
      omega
    refine rn_f (nI_ge (by omega) (by omega)) ?_
    refine r_gP hK 242 12 11 248 rfl (by decide) ?_
    refine rdg hK hI.1 (1426 + F + k) (ix 1426) (by omega) ?_
    refine rn_eq (q_sI hb k rfl (by omega) (by decide)) ?_
    refine r_gP hK 242 12 11 248 rfl (by decide) ?_
    have i1 := ri_o (i := 248) (k := k) (v := R (1426 + F + k)) hI (by decide) (by decide)
    refine rdg hK i1.1 (5426 + F + k) (ix 5426) (by omega) ?_
    refine rn_eq (q_sI hb (200 + k) (by rw [show (200 : Int32) = nI 200 from rfl, nI_add]) (by omega) (by decide)) ?_
    rw [nI_1]
    refine ih _ (by omega) (by omega) (hM.tr ((MFR.wI (by decide) (by decide)).tr (MFR.wI (by decide) (by decide)))) (ri_o i1 (by decide) (by decide)) (fun x hx => ?_)
    rw [wI_s, wI_s]
    by_cases e : x = k
    · subst e
      rw [va_up_n (by omega), va_up_s, va_up_s]
      exact ⟨rfl, rfl⟩
    · have h2 := hs x (by omega)
      rw [va_up_n (by omega), va_up_n e, va_up_n (by omega), va_up_n (by omega)]
      exact h2
theorem agn_0 {i j m : Int32} (hN : WN R) (hG : WG R) (hf : f < nn R 2) (ht : t < nn R 2) (h : agn R f i t j m = 0) : ∃ ii jj mm, i = nI ii ∧ j = nI jj ∧ m = nI mm ∧ ii + mm ≤ nn R (1366 + 3 * f + 2) ∧ jj + mm ≤ nn R (1366 + 3 * t + 2) ∧ nn R (1366 + 3 * f + 2) ≤ 200 ∧ nn R (1366 + 3 * t + 2) ≤ 200 := by
  have g1 := (hG f hf).2
  have g2 := (hG t ht).2
  by_cases h1 : mis R f t
  · rw [agn_m h1] at h
    exact absurd h (by decide)
  by_cases h2 : okc R f i t j m
  · obtain ⟨a1, a2, a3, a4, a5⟩ := h2
    have z0 : (0 : Int32).toInt = 0 := by decide
    obtain ⟨ii, hi, rfl⟩ := nI_of (x := i) (by rw [Int32.lt_iff_toInt_lt, z0]; omega)
    obtain ⟨jj, hj, rfl⟩ := nI_of (x := j) (by rw [Int32.lt_iff_toInt_lt, z0]; omega)
    obtain ⟨mm, hm, rfl⟩ := nI_of (x := m) (by rw [Int32.lt_iff_toInt_lt, z0]; omega)
    rw [nI_toInt hi, nI_toInt hm] at a4
    rw [nI_toInt hj, nI_toInt hm] at a5
    exact ⟨ii, jj, mm, rfl, rfl, rfl, by omega, by omega, g1, g2⟩
  · rw [agn_n h1 h2] at h
    exact absurd h (by decide)
theorem m_against {i j m : Int32} (hK : KS sh z) (hN : WN R) (hG : WG R) (hA : AG (d.1 (z + 243)) R) (hf : f < nn R 2) (ht : t < nn R 2) : f_X12_against N sh (z + 242) (nI f) i (nI t) j m d = some (agn R f i t j m) := by
  have n2 := hN.2.2.1.2
  have g1 := hG f hf
  have g2 := hG t ht
  refine rn_val ?_
  unfold f_X12_against f_X12_against_38 f_X12_against_82 f_X12_against_88
  refine rn_t (ks_o hK 242 12 rfl) ?_
  refine rdga hK hA 2 (by omega) (by decide) rfl ?_
  refine rdga hK hA 2 (by omega) (by decide) rfl ?_
  by_cases h1 : R (1366 + 3 * f + 2) = -1
  · rw [agn_m (Or.inl h1)]
    exact rn_t (by rw [h1]; decide) (rn_some rfl)
  have e1 := g1.1.resolve_left h1
  refine rn_f (by rw [e1]; exact nI_pos (by omega)) ?_
  by_cases h2 : R (1366 + 3 * t + 2) = -1
  · rw [agn_m (Or.inr h2)]
    exact rn_f (by rw [h2]; decide) (rn_some rfl)
  have e2 := g2.1.resolve_left h2
  refine rn_t (by rw [e2]; exact nI_pos' (by omega)) ?_
  have hm : ¬ mis R f t := fun q => q.elim h1 h2
  have z0 : (0 : Int32).toInt = 0 := by decide
  have lt0 : ∀ x : Int32, x < 0 ↔ x.toInt < 0 := fun x => by rw [Int32.lt_iff_toInt_lt, z0]
  refine rn_ite (fun h3 => ?_) (fun h3 => ?_)
  · rw [agn_n hm (fun q => by have := (lt0 i).mp h3; omega)]
    exact rn_some rfl
  refine rn_ite (fun h4 => ?_) (fun h4 => ?_)
  · rw [agn_n hm (fun q => by have := (lt0 j).mp h4; omega)]
    exact rn_some rfl
  refine rn_ite (fun h5 => ?_) (fun h5 => ?_)
  · rw [agn_n hm (fun q => by have := (lt0 m).mp h5; omega)]
    exact rn_some rfl
  obtain ⟨ii, hi, rfl⟩ := nI_of h3
  obtain ⟨jj, hj, rfl⟩ := nI_of h4
  obtain ⟨mm, hmm, rfl⟩ := nI_of h5
  have t1 := nI_toInt hi
  have t2 := nI_toInt hj
  have t3 := nI_toInt hmm
  rw [e1, e2, nI_l hi, nI_l hj, nI_l hmm, nI_l (show nn R (1366 + 3 * f + 2) < 2 ^ 31 by omega), nI_l (show nn R (1366 + 3 * t + 2) < 2 ^ 31 by omega), lN_add, lN_add]
  refine rn_ite (fun h6 => ?_) (fun h6 => ?_)
  · rw [lg_cmp_gt, pk_lLT (by omega) (by omega)] at h6
    rw [agn_n hm (fun q => by omega)]
    exact rn_some rfl
  rw [lg_cmp_gt, pk_lLT (by omega) (by omega)] at h6
  refine rn_ite (fun h7 => ?_) (fun h7 => ?_)
  · rw [lg_cmp_le, pk_lLE (by omega) (by omega)] at h7
    rw [agn_y hm ⟨by omega, by omega, by omega, by omega, by omega⟩]
    exact rn_some rfl
  · rw [lg_cmp_le, pk_lLE (by omega) (by omega)] at h7
    rw [agn_n hm (fun q => by omega)]
    exact rn_some rfl
theorem m_brings {i j m : Int32} (hn2 : 300 ≤ N) (hK : KS sh z) (hN : WN R) (hG : WG R) (hI : RI d z R K u) (hf : f < nn R 2) (ht : t < nn R 2) (h : agn R f i t j m = 0) : Rn (f_X12_brings N sh (z + 242) (nI f) i (nI t) j m d) (fun d' => MFR z d d' ∧ RI d' z (cpR R (200 * f + i.toNatClampNeg) (200 * t + j.toNatClampNeg) m.toNatClampNeg) K u) := by
  have n2 := hN.2.2.1.2
  obtain ⟨ii, jj, mm, rfl, rfl, rfl, a1, a2, a3, a4⟩ := agn_0 hN hG hf ht h
  rw [nI_clamp (by omega), nI_clamp (by omega), nI_clamp (by omega)]
  unfold f_X12_brings
  refine rn_t (ks_o hK 242 12 rfl) ?_
  exact brg1 hK hN (by omega) (by omega) (by omega) hn2 rfl rfl mm 0 N d (by omega) (by omega) MFR.rf hI (fun x hx => absurd hx (Nat.not_lt_zero x))
def sp_copy (R : Nat → Int32) (x i x2 j m : Int32) : Int32 × Option (Nat → Int32) := if ((x < 0 ∨ nI (nn R 2) ≤ x) ∨ (x2 < 0 ∨ nI (nn R 2) ≤ x2)) ∨ R (1366 + 3 * x.toNatClampNeg + 1) ≠ R (1366 + 3 * x2.toNatClampNeg + 1) then (-2, none) else if agn R x.toNatClampNeg i x2.toNatClampNeg j m = 0 then (1, some (cpR R (200 * x.toNatClampNeg + i.toNatClampNeg) (200 * x2.toNatClampNeg + j.toNatClampNeg) m.toNatClampNeg)) else (agn R x.toNatClampNeg i x2.toNatClampNeg j m, none)
theorem m_copy {x i x2 j m : Int32} (hNf : 15642 < N) (hK : KS sh z) (h : RI d z R K u) (hR : WF R) : Rn (f_X12_copy N sh (z + 242) x i x2 j m d) (RO z R K u (sp_copy R x i x2 j m) d) := by
  have hN := hR.1
  have n2 := hN.2.2.1.2
  have bad : ((x < 0 ∨ nI (nn R 2) ≤ x) ∨ (x2 < 0 ∨ nI (nn R 2) ≤ x2)) ∨ R (1366 + 3 * x.toNatClampNeg + 1) ≠ R (1366 + 3 * x2.toNatClampNeg + 1) → Rn (f_X12_copy_43 N sh (z + 242) d) (RO z R K u (sp_copy R x i x2 j m) d) := fun hb => by
    rw [show sp_copy R x i x2 j m = _ from if_pos hb]
    exact ro_refuses hK h rfl
  unfold f_X12_copy
  refine rn_t (ks_o hK 242 12 rfl) ?_
  refine rn_eq (ri_isGauge hK h hN) ?_
  refine rn_ite (fun h1 => bad (Or.inl (Or.inl (ite01.mp h1)))) (fun h1 => ?_)
  refine rn_eq (ri_isGauge hK h hN) ?_
  refine rn_ite (fun h2 => bad (Or.inl (Or.inr (ite01.mp h2)))) (fun h2 => ?_)
  have h1 : ¬ (x < 0 ∨ nI (nn R 2) ≤ x) := fun q => h1 (ite01.mpr q)
  have h2 : ¬ (x2 < 0 ∨ nI (nn R 2) ≤ x2) := fun q => h2 (ite01.mpr q)
  obtain ⟨f, hf, rfl, e1⟩ := st_of (by omega) h1
  obtain ⟨t, ht, rfl, e2⟩ := st_of (by omega) h2
  refine rdga hK h.1 1 (by omega) (by decide) rfl ?_
  refine rdga hK h.1 1 (by omega) (by decide) rfl ?_
  refine rn_ite (fun h3 => ?_) (fun h3 => bad (Or.inr (by rw [e1, e2]; exact h3)))
  rw [show sp_copy R (nI f) i (nI t) j m = _ from if_neg (fun q => q.elim (fun q => q.elim h1 h2) (fun q => q (by rw [e1, e2]; exact h3))), e1, e2]
  refine rn_eq (m_against hK hN hR.2.1 h.1 hf ht) ?_
  by_cases ha : agn R f i t j m = 0
  · refine rn_t ha ?_
    rw [if_pos ha]
    refine rn_bind (ri_keeps h hK hNf) (fun d1 hd => ?_)
    obtain ⟨x1, x2⟩ := hd
    refine rn_bind (m_brings (by omega) hK hN hR.2.1 x1 hf ht ha) (fun d2 hd2 => ?_)
    exact ro_done hK hd2.2 (x2.tr hd2.1) rfl
  · refine rn_f ha ?_
    rw [if_neg ha]
    exact ro_refuses hK h rfl
/-! the class -/
theorem k_isOfShorts {g : Nat} (hR : WC R) (hK : KS sh z) {L : Nat → Nat} (hT : TB sh d z ow 15 3 (nn R 2) (vG R) L) (hg : g < nn R 2) : f_X1_isOfShorts N sh (z + 3) (nI g) d = some (R (1366 + 3 * g + 1)) := by
  refine rn_val ?_
  unfold f_X1_isOfShorts
  refine rn_t (ks_o hK 3 1 rfl) ?_
  refine r_gP hK 3 1 2 15 rfl (by decide) ?_
  refine rn_eq (tb_get (o := 15) (nc := 3) (c := 1) hK (by decide) hT rfl hg rfl (by decide)) ?_
  have ev : vG R 1 g = R (1366 + 3 * g + 1) := rfl
  rw [ev]
  rcases (hR.1 g hg).2 with e | e
  · rw [e]
    exact rn_t (by decide) ⟨0, rfl, rfl⟩
  · rw [e]
    exact rn_f (fun q => q rfl) ⟨1, rfl, rfl⟩
theorem k_reaches {g : Nat} {i m : Int32} (hK : KS sh z) {L : Nat → Nat} (hT : TB sh d z ow 15 3 (nn R 2) (vG R) L) (hg : g < nn R 2) (he : R (1366 + 3 * g + 2) = nI (nn R (1366 + 3 * g + 2))) (hb : nn R (1366 + 3 * g + 2) ≤ 200) : f_X1_reaches N sh (z + 3) (nI g) i m d = some (if 0 ≤ i.toInt ∧ 0 ≤ m.toInt ∧ i.toInt + m.toInt ≤ (nn R (1366 + 3 * g + 2) : Int) then 1 else 0) := by
  have z0 : (0 : Int32).toInt = 0 := by decide
  have lt0 : ∀ x : Int32, x < 0 ↔ x.toInt < 0 := fun x => by rw [Int32.lt_iff_toInt_lt, z0]
  refine rn_val ?_
  unfold f_X1_reaches f_X1_reaches_27 f_X1_reaches_28
  refine rn_t (ks_o hK 3 1 rfl) ?_
  refine rn_ite (fun h3 => ?_) (fun h3 => ?_)
  · rw [show (if 0 ≤ i.toInt ∧ 0 ≤ m.toInt ∧ i.toInt + m.toInt ≤ (nn R (1366 + 3 * g + 2) : Int) then (1 : Int32) else 0) = 0 from if_neg (fun q => by have := (lt0 i).mp h3; omega)]
    exact ⟨0, rfl, rfl⟩
  refine rn_ite (fun h5 => ?_) (fun h5 => ?_)
  · rw [show (if 0 ≤ i.toInt ∧ 0 ≤ m.toInt ∧ i.toInt + m.toInt ≤ (nn R (1366 + 3 * g + 2) : Int) then (1 : Int32) else 0) = 0 from if_neg (fun q => by have := (lt0 m).mp h5; omega)]
    exact ⟨0, rfl, rfl⟩
  obtain ⟨ii, hi, rfl⟩ := nI_of h3
  obtain ⟨mm, hm, rfl⟩ := nI_of h5
  refine r_gP hK 3 1 2 15 rfl (by decide) ?_
  refine rn_eq (tb_get (o := 15) (nc := 3) (c := 2) hK (by decide) hT rfl hg rfl (by decide)) ?_
  have ev : vG R 2 g = R (1366 + 3 * g + 2) := rfl
  rw [ev, he, nI_toInt hi, nI_toInt hm]
  have hsub : (nI (nn R (1366 + 3 * g + 2)) - nI mm).toInt = (nn R (1366 + 3 * g + 2) : Int) - mm := by
    rw [Int32.toInt_sub, nI_toInt (by omega), nI_toInt hm]
    exact Int.bmod_eq_of_le (by omega) (by omega)
  refine rn_ite (fun h6 => ?_) (fun h6 => ?_)
  · rw [Int32.lt_iff_toInt_lt, hsub, nI_toInt hi] at h6
    rw [if_neg (fun q => by omega)]
    exact ⟨0, rfl, rfl⟩
  · rw [Int32.lt_iff_toInt_lt, hsub, nI_toInt hi] at h6
    rw [if_pos (by omega)]
    exact ⟨1, rfl, rfl⟩
theorem k_whyUncopied {i j m : Int32} (hK : KS sh z) (hN : WN R) (hG : WG R) (hB : BK sh d z ow 3 R q) (hf : f < nn R 2) (ht : t < nn R 2) : f_X1_whyUncopied N sh (z + 3) (nI f) i (nI t) j m d = some (agn R f i t j m) := by
  have g1 := hG f hf
  have g2 := hG t ht
  refine rn_val ?_
  unfold f_X1_whyUncopied f_X1_whyUncopied_16 f_X1_whyUncopied_46 f_X1_whyUncopied_48
  refine rn_t (ks_o hK 3 1 rfl) ?_
  refine rn_eq (k_isMissing (b := 3) (Or.inl rfl) hK hB.bt.1 hf) ?_
  by_cases h1 : R (1366 + 3 * f + 2) = -1
  · rw [if_pos h1, agn_m (Or.inl h1)]
    exact rn_t (by decide) (rn_some rfl)
  rw [if_neg h1]
  refine rn_f (fun q => q rfl) ?_
  refine rn_eq (k_isMissing (b := 3) (Or.inl rfl) hK hB.bt.1 ht) ?_
  by_cases h2 : R (1366 + 3 * t + 2) = -1
  · rw [if_pos h2, agn_m (Or.inr h2)]
    exact rn_f (by decide) (rn_some rfl)
  rw [if_neg h2]
  refine rn_t rfl ?_
  have hm : ¬ mis R f t := fun q => q.elim h1 h2
  refine rn_eq (k_reaches hK hB.2.2.1 hf (g1.1.resolve_left h1) g1.2) ?_
  by_cases h3 : 0 ≤ i.toInt ∧ 0 ≤ m.toInt ∧ i.toInt + m.toInt ≤ (nn R (1366 + 3 * f + 2) : Int)
  · rw [if_pos h3]
    refine rn_f (by decide) ?_
    refine rn_eq (k_reaches hK hB.2.2.1 ht (g2.1.resolve_left h2) g2.2) ?_
    by_cases h4 : 0 ≤ j.toInt ∧ 0 ≤ m.toInt ∧ j.toInt + m.toInt ≤ (nn R (1366 + 3 * t + 2) : Int)
    · rw [if_pos h4, agn_y hm ⟨h3.1, h4.1, h3.2.1, h3.2.2, h4.2.2⟩]
      exact rn_f (by decide) (rn_some rfl)
    · rw [if_neg h4, agn_n hm (fun q => h4 ⟨q.2.1, q.2.2.1, q.2.2.2.2⟩)]
      exact rn_t rfl (rn_some rfl)
  · rw [if_neg h3, agn_n hm (fun q => h3 ⟨q.1, q.2.2.1, q.2.2.2.1⟩)]
    exact rn_t rfl (rn_some rfl)
theorem vC_cp {j : Nat} (hT : T + n ≤ 4000) (hj : j < 4000) : vC (cpR R F T n) j = if T ≤ j ∧ j < T + n then vC R (F + (j - T)) else vC R j := by
  unfold vC
  by_cases h : T ≤ j ∧ j < T + n
  · have e1 : cpR R F T n (5426 + j) = R (5426 + (F + (j - T))) := by
      unfold cpR
      rw [if_neg (by omega), if_pos (by omega)]
      congr 1
      omega
    have e2 : cpR R F T n (1426 + j) = R (1426 + (F + (j - T))) := by
      unfold cpR
      rw [if_pos (by omega)]
      congr 1
      omega
    rw [if_pos h, e1, e2]
  · have e1 : cpR R F T n (5426 + j) = R (5426 + j) := by
      unfold cpR
      rw [if_neg (by omega), if_neg (by omega)]
    have e2 : cpR R F T n (1426 + j) = R (1426 + j) := by
      unfold cpR
      rw [if_neg (by omega), if_neg (by omega)]
    rw [if_neg h, e1, e2]
theorem k_copyR {i j m : Int32} (hK : KS sh z) (hw : OWS ow z) (hR : WDn R) (hB : BK sh d z ow 3 R q) (hf : f < nn R 2) (ht : t < nn R 2) (h : agn R f i t j m = 0) : Rn (f_X1_copyReadings N sh (z + 3) (nI f) i (nI t) j m d) (fun d' => FD (IX z ow 3 3) d d' ∧ BK sh d' z ow 3 (cpR R (200 * f + i.toNatClampNeg) (200 * t + j.toNatClampNeg) m.toNatClampNeg) q) := by
  have n1 := hR.1.2.1.2
  have n2 := hR.1.2.2.1.2
  obtain ⟨ii, jj, mm, rfl, rfl, rfl, a1, a2, a3, a4⟩ := agn_0 hR.1 hR.2.1 hf ht h
  rw [nI_clamp (by omega), nI_clamp (by omega), nI_clamp (by omega)]
  obtain ⟨a, z1, z2, z3, z4, z5, z6⟩ := hB.bt.2
  have hL := hB.bt.1.2.2.2.2.2.1
  have e1 : ∀ g x, nI g * (200 : Int32) + nI x = nI (200 * g + x) := fun g x => by
    rw [show (200 : Int32) = nI 200 from rfl, pk_mul, nI_add, Nat.mul_comm g 200]
  unfold f_X1_copyReadings
  refine rn_t (ks_o hK 3 1 rfl) ?_
  refine r_gQ hK a z1 (i := 3) (c := 1) rfl ?_
  refine r_gQ hK a z1 (i := 3) (c := 1) rfl ?_
  rw [e1, e1]
  refine rn_eq (cpy_J ⟨z3, z4⟩ ⟨z3, z4⟩ (by omega) (by omega) (by omega) (by omega)) (rn_some ⟨fun b hb => ?_, ?_⟩)
  · have hne : b ≠ a := fun e => hb (by rw [e]; unfold IX; rw [onr_r (o := 3) (k := 0) z2 (by omega)]; omega)
    exact ⟨rfl, va_up_n hne, rfl, rfl⟩
  · have hT9 : 200 * t + jj + mm ≤ 4000 := by omega
    have hbt : BT sh (d.1, va_up d.2.1 a (va_cpy (d.2.1 a) (d.2.1 a) (200 * f + ii) (200 * t + jj) mm), d.2.2) z ow 3 R q := hB.bt.1
    refine (bt_congr2 hR.1 (fun i hi => by have := hR.2.2 i hi; omega) hbt (fun j hj => cp_out hT9 (by omega))).bk ?_
    refine ⟨a, z1, z2, z3, z4, z5, fun k hk => ?_⟩
    have hk2 : inC R k := by
      obtain ⟨g, hh, q1, q2, q3⟩ := hk
      have en : ∀ j, j < 1426 → nn (cpR R (200 * f + ii) (200 * t + jj) mm) j = nn R j := fun j hj => by unfold nn; rw [cp_out hT9 (by omega)]
      rw [en 2 (by omega)] at q1
      rw [en _ (by omega)] at q2
      exact ⟨g, hh, q1, q2, q3⟩
    have r := z6 k hk2
    have k4 := inC_lt hR.1 hR.2.1 hk2
    refine ⟨r.1, ?_⟩
    show va_up d.2.1 a (va_cpy (d.2.1 a) (d.2.1 a) (200 * f + ii) (200 * t + jj) mm) a k = _
    rw [va_up_s, vC_cp hT9 k4]
    by_cases hc : 200 * t + jj ≤ k ∧ k < 200 * t + jj + mm
    · rw [if_pos hc, pk_cpy_in hc.1 hc.2]
      exact (z6 _ ⟨f, ii + (k - (200 * t + jj)), hf, by omega, by omega⟩).2
    · rw [if_neg hc, pk_cpy_out (by omega)]
      exact r.2
theorem k_copy {x i x2 j m : Int32} (hNf : 300 ≤ N) (h : CI s z ow R K u y c) (hR : WF R) (hKF : WF K) : Rn (f_X11_copy N z x i x2 j m s) (KO z R K u c (sp_copy R x i x2 j m) s) := by
  have hK := h.1
  have hN := hR.1
  have n2 := hN.2.2.1.2
  have hB : BK s.1 s.2 z ow 3 R y.1 := h.2.2.1
  have bad : ((x < 0 ∨ nI (nn R 2) ≤ x) ∨ (x2 < 0 ∨ nI (nn R 2) ≤ x2)) ∨ R (1366 + 3 * x.toNatClampNeg + 1) ≠ R (1366 + 3 * x2.toNatClampNeg + 1) → Rn (f_X11_copy_47 N z s) (KO z R K u c (sp_copy R x i x2 j m) s) := fun hb => by
    rw [show sp_copy R x i x2 j m = _ from if_pos hb]
    unfold f_X11_copy_47
    refine rn_bind (k_refuse hK) (fun r hr => rn_some ?_)
    exact ko_lg h hr rfl
  unfold f_X11_copy
  refine rn_t (ks_o hK 0 11 rfl) ?_
  refine r_now hK 2 15 (by decide) ?_
  refine rn_eq (tb_has (o := 15) (nc := 3) hK (by decide) hB.2.2.1) ?_
  refine rn_ite (fun h1 => bad (Or.inl (Or.inl (ite01.mp h1)))) (fun h1 => ?_)
  refine r_now hK 2 15 (by decide) ?_
  refine rn_eq (tb_has (o := 15) (nc := 3) hK (by decide) hB.2.2.1) ?_
  refine rn_ite (fun h2 => bad (Or.inl (Or.inr (ite01.mp h2)))) (fun h2 => ?_)
  have h1 : ¬ (x < 0 ∨ nI (nn R 2) ≤ x) := fun q => h1 (ite01.mpr q)
  have h2 : ¬ (x2 < 0 ∨ nI (nn R 2) ≤ x2) := fun q => h2 (ite01.mpr q)
  obtain ⟨f, hf, rfl, e1⟩ := st_of (by omega) h1
  obtain ⟨t, ht, rfl, e2⟩ := st_of (by omega) h2
  refine r_gP hK 0 11 1 3 rfl (by decide) ?_
  refine rn_eq (k_isOfShorts hR.2.2.2.1 hK hB.2.2.1 hf) ?_
  refine r_gP hK 0 11 1 3 rfl (by decide) ?_
  refine rn_eq (k_isOfShorts hR.2.2.2.1 hK hB.2.2.1 ht) ?_
  refine rn_ite (fun h3 => ?_) (fun h3 => bad (Or.inr (by rw [e1, e2]; exact h3)))
  rw [show sp_copy R (nI f) i (nI t) j m = _ from if_neg (fun q => q.elim (fun q => q.elim h1 h2) (fun q => q (by rw [e1, e2]; exact h3))), e1, e2]
  refine r_gP hK 0 11 1 3 rfl (by decide) ?_
  refine rn_eq (k_whyUncopied hK hN hR.2.1 hB hf ht) ?_
  by_cases ha : agn R f i t j m = 0
  · refine rn_t ha ?_
    rw [if_pos ha]
    refine rn_bind (ci_change (by omega) h hR.1 hR.2.1 hKF.1) (fun s1 hs => ?_)
    obtain ⟨f1, g1, g2, g3, ow1, y1, -, c1⟩ := hs
    have hK1 := c1.1
    unfold f_X11_copy_86
    refine r_gP hK1 0 11 1 3 rfl (by decide) ?_
    refine rn_bind (k_copyR hK1 c1.2.1 (wdn_of hR) c1.2.2.1 hf ht ha) (fun d1 hd => ?_)
    obtain ⟨ii, jj, mm, rfl, rfl, rfl, a1, a2, a3, a4⟩ := agn_0 hR.1 hR.2.1 hf ht ha
    have hT9 : 200 * t + (nI jj).toNatClampNeg + (nI mm).toNatClampNeg ≤ 4000 := by
      rw [nI_clamp (by omega), nI_clamp (by omega)]
      omega
    have qn := ci_new c1 g1 g2 g3 (hd.1.mono (fun a ha => ix_mono ha (by omega) (by omega))) hd.2 (pb_congr c1.2.2.2.2.2.1 (cp_out hT9 (by omega)) (fun k hk => cp_out hT9 (by omega)))
    refine rn_bind (k_answer hK1) (fun r hr => rn_some ?_)
    have q3 := ci_lg qn.1 hr.2
    exact ⟨hr.1, (f1.tr qn.2).tr q3.2, ow1, _, q3.1⟩
  · refine rn_f ha ?_
    rw [if_neg ha]
    refine rn_bind (k_refuse hK) (fun r hr => rn_some ?_)
    exact ko_lg h hr rfl
end CPY
