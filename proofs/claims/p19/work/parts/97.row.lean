/-! row(): a row of as many readings, none of them told -/
def rowF (R : Nat → Int32) (b : Nat) : Nat → Nat → Int32
  | 0 => R
  | k + 1 => va_up (va_up (rowF R b k) (1426 + (b + k)) 0) (5426 + (b + k)) 0
def sp_row (R : Nat → Int32) (x n : Int32) : Int32 × Option (Nat → Int32) := if x < 0 ∨ nI (nn R 2) ≤ x then (-2, none) else if n ≤ 200 then (if 0 ≤ n then (1, some (rowF (va_up R (1366 + 3 * x.toNatClampNeg + 2) n) (200 * x.toNatClampNeg) n.toNatClampNeg)) else (-7, none)) else (-2, none)
section RW
variable {sh : Sh} {d d0 : Dt} {z : Nat} {R R1 K : Nat → Int32} {u : Bool} {N g n b : Nat}
theorem wn_row (h : WN R) : ∀ k, WN (rowF R b k)
  | 0 => h
  | k + 1 => wn_up (wn_up (wn_row h k) (by omega)) (by omega)
theorem row_loop (hK : KS sh z) (hg : g < 20) (hn : n ≤ 200) (hN : WN R1) (hm : MFR z d0 d0) : ∀ (m k fu : Nat) (d : Dt), k + m = n → m < fu → MFR z d0 d → RI d z (rowF R1 (200 * g) k) R true → Rn (f_X12_row_56 N sh fu (z + 242) (nI g) (nI n) (nI (200 * g + k)) d) (RO z R K u (1, some (rowF R1 (200 * g) n)) d0)
  | 0, k, fu, d, hk, hf, hM, hI => by
    obtain ⟨fu, rfl⟩ : ∃ q, fu = q + 1 := ⟨fu - 1, by omega⟩
    show Rn (g_X12_row_56 N sh (f_X12_row_56 N sh fu) (z + 242) (nI g) (nI n) (nI (200 * g + k)) d) _
    unfold g_X12_row_56 f_X12_row_95
    have e : (200 : Int32) * nI g + nI n = nI (200 * g + n) := by rw [show (200 : Int32) = nI 200 from rfl, pk_mul, nI_add]
    rw [e]
    refine rn_t ((nI_leI (by omega) (by omega)).mpr (by omega)) ?_
    have ek : k = n := by omega
    subst ek
    exact ro_done hK hI hM rfl
  | m + 1, k, fu, d, hk, hf, hM, hI => by
    obtain ⟨fu, rfl⟩ : ∃ q, fu = q + 1 := ⟨fu - 1, by omega⟩
    have ih := row_loop hK hg hn hN hm m (k + 1) fu
    show Rn (g_X12_row_56 N sh (f_X12_row_56 N sh fu) (z + 242) (nI g) (nI n) (nI (200 * g + k)) d) _
    unfold g_X12_row_56
    have e : (200 : Int32) * nI g + nI n = nI (200 * g + n) := by rw [show (200 : Int32) = nI 200 from rfl, pk_mul, nI_add]
    rw [e]
    refine rn_f (nI_ge (by omega) (by omega)) ?_
    have ha := ks_a hK 243 0 15642 rfl
    refine r_gP hK 242 12 0 243 rfl (by decide) ?_
    refine rn_eq (q_sI ha (1426 + (200 * g + k)) (by rw [show (1426 : Int32) = nI 1426 from rfl, nI_add]) (by omega) (by decide)) ?_
    refine r_gP hK 242 12 0 243 rfl (by decide) ?_
    refine rn_eq (q_sI ha (5426 + (200 * g + k)) (by rw [show (5426 : Int32) = nI 5426 from rfl, nI_add]) (by omega) (by decide)) ?_
    rw [nI_1]
    have hw := wn_row (b := 200 * g) hN k
    have r1 := ri_cellG (j := 1426 + (200 * g + k)) (v := 0) hI hw (by omega) (fun s k _ q1 q2 => by omega)
    have r2 := ri_cellG (j := 5426 + (200 * g + k)) (v := 0) r1 (wn_up hw (by omega)) (by omega) (fun s k _ q1 q2 => by omega)
    exact ih _ (by omega) (by omega) (hM.tr ((MFR.wI (by decide) (by decide)).tr (MFR.wI (by decide) (by decide)))) r2
theorem m_row {x n : Int32} (hNf : 15642 < N) (hK : KS sh z) (h : RI d z R K u) (hR : WF R) : Rn (f_X12_row N sh (z + 242) x n d) (RO z R K u (sp_row R x n) d) := by
  have hN := hR.1
  have n2 := hN.2.2.1.2
  unfold f_X12_row f_X12_row_15
  refine rn_t (ks_o hK 242 12 rfl) ?_
  refine rn_eq (ri_isGauge hK h hN) ?_
  by_cases hb : x < 0 ∨ nI (nn R 2) ≤ x
  · rw [show sp_row R x n = _ from if_pos hb]
    refine rn_t (ite01.mpr hb) ?_
    exact ro_refuses hK h rfl
  rw [show sp_row R x n = _ from if_neg hb]
  refine rn_f (fun q => hb (ite01.mp q)) ?_
  by_cases h1 : n ≤ 200
  · refine rn_t h1 ?_
    rw [if_pos h1]
    by_cases h0 : 0 ≤ n
    · refine rn_t h0 ?_
      rw [if_pos h0]
      obtain ⟨g, hg, rfl, e2⟩ := st_of (by omega) hb
      obtain ⟨m, hm, rfl, e3⟩ := st_of (x := n) (n := 201) (by omega) (fun r => r.elim (Int32.not_lt.mpr h0) (fun r => absurd (Int32.le_trans r h1) (by decide)))
      rw [e2, e3]
      refine rn_bind (ri_keeps h hK hNf) (fun d1 hd => ?_)
      obtain ⟨x1, x2⟩ := hd
      have ha := ks_a hK 243 0 15642 rfl
      refine r_gP hK 242 12 0 243 rfl (by decide) ?_
      refine rn_eq (m_ga hK) ?_
      refine rn_eq (q_sI ha (1366 + 3 * g + 2) (ix_ga g 2) (by omega) (by decide)) ?_
      have r1 := ri_cellG (j := 1366 + 3 * g + 2) (v := nI m) x1 hN (by omega) (fun s k _ q1 q2 => by omega)
      have e : (200 : Int32) * nI g = nI (200 * g + 0) := by rw [show (200 : Int32) = nI 200 from rfl, pk_mul]; rfl
      rw [e]
      exact row_loop (d0 := d) hK (by omega) (by omega) (wn_up hN (by omega)) MFR.rf m 0 N _ (by omega) (by omega) (x2.tr (MFR.wI (by decide) (by decide))) r1
    · refine rn_f h0 ?_
      rw [if_neg h0]
      exact ro_refuses hK h rfl
  · refine rn_f h1 ?_
    rw [if_neg h1]
    exact ro_refuses hK h rfl
end RW
