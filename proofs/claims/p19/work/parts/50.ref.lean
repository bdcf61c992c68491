/-! the reference: its state is the row at z + 243 -/
section RF
variable {β : Type} {Q : β → Prop} {sh : Sh} {d : Dt} {z : Nat} {R : Nat → Int32} {N : Nat}
/-- only status, findings are touched -/
def RG (z : Nat) (d d' : Dt) : Prop := d'.2 = d.2 ∧ (∀ a, a ≠ z + 242 → a ≠ z + 245 → d'.1 a = d.1 a) ∧ ∀ k, k ≠ 3 → k ≠ 4 → k ≠ 5 → d'.1 (z + 242) k = d.1 (z + 242) k
theorem RG.rf : RG z d d := ⟨rfl, fun _ _ _ => rfl, fun _ _ _ _ => rfl⟩
theorem RG.tr {d1 d2 : Dt} (h1 : RG z d d1) (h2 : RG z d1 d2) : RG z d d2 := ⟨h2.1.trans h1.1, fun a q1 q2 => (h2.2.1 a q1 q2).trans (h1.2.1 a q1 q2), fun k q1 q2 q3 => (h2.2.2 k q1 q2 q3).trans (h1.2.2 k q1 q2 q3)⟩
theorem RG.w242 {k : Nat} {v : Int32} (hk : k = 3 ∨ k = 4 ∨ k = 5) : RG z d (wI d (z + 242) k v) := ⟨rfl, fun a q1 _ => wI_n q1, fun j q1 q2 q3 => by rw [wI_s, va_up_n (by omega)]⟩
theorem RG.w245 {k : Nat} {v : Int32} : RG z d (wI d (z + 245) k v) := ⟨rfl, fun a _ q2 => wI_n q2, fun j _ _ _ => by rw [wI_n (by omega)]⟩
theorem rd {g : Int32 → Option β} {x : Int32} (hK : KS sh z) (hR : d.1 (z + 243) = R) (j : Nat) (hx : x = nI j) (hj : j < 15642) (kk : Rn (g (R j)) Q) : Rn ((gP sh (z + 242) 12 0).bind fun v => (aT 0 sh d v x).bind g) Q := by
  refine r_gP hK 242 12 0 243 rfl (by decide) ?_
  refine rn_eq (q_aT (ks_a hK 243 0 15642 rfl) j hx hj (by decide)) ?_
  rw [hR]
  exact kk
theorem wr {g : Dt → Option β} {x v : Int32} (hK : KS sh z) (j : Nat) (hx : x = nI j) (hj : j < 15642) (kk : Rn (g (wI d (z + 243) j v)) Q) : Rn ((gP sh (z + 242) 12 0).bind fun a => (sI sh d a x v).bind g) Q := by
  refine r_gP hK 242 12 0 243 rfl (by decide) ?_
  exact rn_eq (q_sI (ks_a hK 243 0 15642 rfl) j hx hj (by decide)) kk
theorem ix_st (s k : Nat) : (16 : Int32) + (9 : Int32) * nI s + nI k = nI (16 + 9 * s + k) := by
  rw [show (9 : Int32) = nI 9 from rfl, show (16 : Int32) = nI 16 from rfl, pk_mul, nI_add, nI_add]
theorem ix_ga (s k : Nat) : (1366 : Int32) + (3 : Int32) * nI s + nI k = nI (1366 + 3 * s + k) := by
  rw [show (3 : Int32) = nI 3 from rfl, show (1366 : Int32) = nI 1366 from rfl, pk_mul, nI_add, nI_add]
theorem ix_ga0 (s : Nat) : (1366 : Int32) + (3 : Int32) * nI s = nI (1366 + 3 * s) := by
  rw [show (3 : Int32) = nI 3 from rfl, show (1366 : Int32) = nI 1366 from rfl, pk_mul, nI_add]
theorem ix_pl (s k : Nat) : (9426 : Int32) + (13 : Int32) * nI s + nI k = nI (9426 + 13 * s + k) := by
  rw [show (13 : Int32) = nI 13 from rfl, show (9426 : Int32) = nI 9426 from rfl, pk_mul, nI_add, nI_add]
theorem lt_pred {n : Nat} {v : Int32} (hn : n < 2 ^ 31) : nI n - 1 < v ↔ nI n ≤ v := by
  rw [Int32.lt_iff_toInt_lt, Int32.le_iff_toInt_le]
  rcases n with _ | n
  · have e1 : (nI 0 - 1).toInt = -1 := by decide
    have e2 : (nI 0).toInt = 0 := by decide
    rw [e1, e2]
    omega
  · rw [nI_pred, nI_toInt (by omega), nI_toInt hn]
    omega
theorem m_in {v lo hi : Int32} : f_X12_in N sh v lo hi d = some (if v < lo ∨ hi < v then 0 else 1) := by
  refine rn_val ?_
  unfold f_X12_in
  refine rn_ite (fun h0 => ?_) (fun h0 => ?_)
  · rw [if_pos (Or.inl h0)]
    exact ⟨0, rfl, rfl⟩
  · refine rn_ite (fun h1 => ?_) (fun h1 => ?_)
    · rw [if_pos (Or.inr h1)]
      exact ⟨0, rfl, rfl⟩
    · rw [if_neg (fun q => q.elim h0 h1)]
      exact ⟨1, rfl, rfl⟩
theorem m_lesser {x y : Int32} : f_X12_lesser N sh x y d = some (if y ≤ x then y else x) := by
  unfold f_X12_lesser
  split <;> rfl
theorem m_says {v : Int32} (hK : KS sh z) : f_X12_says N sh (z + 242) v d = some (v, wI d (z + 242) 3 0) := by
  refine rn_val ?_
  unfold f_X12_says
  refine rn_t (ks_o hK 242 12 rfl) ?_
  exact r_pI hK (i := 242) (c := 12) rfl (rn_some rfl)
theorem m_finds {v : Int32} (hK : KS sh z) : Rn (f_X12_finds N sh (z + 242) v d) (fun r => RG z d r) := by
  unfold f_X12_finds
  refine rn_t (ks_o hK 242 12 rfl) ?_
  have ha := ks_a hK 245 0 5 rfl
  have h28 : Rn (f_X12_finds_28 N sh (z + 242) v d) (fun r => RG z d r) := by
    unfold f_X12_finds_28
    refine rn_ite (fun _ => rn_some RG.rf) (fun _ => ?_)
    refine r_gP hK 242 12 6 245 rfl (by decide) ?_
    refine rn_eq (q_aT ha 4 rfl (by decide) (by decide)) ?_
    refine rn_eq (q_sI ha 4 rfl (by decide) (by decide)) ?_
    exact rn_some RG.w245
  refine rn_ite (fun _ => h28) (fun h2 => ?_)
  refine rn_ite (fun _ => h28) (fun h3 => ?_)
  refine r_gP hK 242 12 6 245 rfl (by decide) ?_
  have hv : ∃ j, j < 5 ∧ (-4 : Int32) - v = nI j := by
    have e1 : ¬ (-4 : Int32) < v := h2
    have e2 : ¬ v < (-7 : Int32) := h3
    rw [Int32.lt_iff_toInt_lt] at e1 e2
    have e3 : (-4 : Int32).toInt = -4 := by decide
    have e4 : (-7 : Int32).toInt = -7 := by decide
    rw [e3] at e1
    rw [e4] at e2
    have e5 : v.toInt = -4 ∨ v.toInt = -5 ∨ v.toInt = -6 ∨ v.toInt = -7 := by omega
    rcases e5 with e | e | e | e
    · have : v = -4 := Int32.toInt_inj.mp (e.trans (by decide))
      exact ⟨0, by decide, by rw [this]; decide⟩
    · have : v = -5 := Int32.toInt_inj.mp (e.trans (by decide))
      exact ⟨1, by decide, by rw [this]; decide⟩
    · have : v = -6 := Int32.toInt_inj.mp (e.trans (by decide))
      exact ⟨2, by decide, by rw [this]; decide⟩
    · have : v = -7 := Int32.toInt_inj.mp (e.trans (by decide))
      exact ⟨3, by decide, by rw [this]; decide⟩
  obtain ⟨j, hj, ej⟩ := hv
  rw [ej]
  refine rn_eq (q_aT ha j rfl hj (by decide)) ?_
  refine rn_eq (q_sI ha j rfl hj (by decide)) ?_
  exact rn_some RG.w245
theorem m_refuses {v : Int32} (hK : KS sh z) : Rn (f_X12_refuses N sh (z + 242) v d) (fun r => r.1 = v ∧ RG z d r.2) := by
  unfold f_X12_refuses
  refine rn_t (ks_o hK 242 12 rfl) ?_
  refine r_pI hK (i := 242) (c := 12) rfl ?_
  refine rn_bind (m_finds hK) (fun d' hd => ?_)
  exact rn_some ⟨rfl, (RG.w242 (Or.inl rfl)).tr hd⟩
theorem o_bool_ite {c : Prop} {q : Decidable c} : o_bool (@ite _ c q 0 1) = some (@ite _ c q 0 1) := by
  by_cases h : c
  · rw [if_pos h]
    rfl
  · rw [if_neg h]
    rfl
theorem m_isCrossing {v : Int32} (hK : KS sh z) (hR : d.1 (z + 243) = R) (hn : R 0 = nI (nn R 0)) (hb : nn R 0 < 2 ^ 31) : f_X12_isCrossing N sh (z + 242) v d = some (if v < 0 ∨ nI (nn R 0) ≤ v then 0 else 1) := by
  refine rn_val ?_
  unfold f_X12_isCrossing
  refine rn_t (ks_o hK 242 12 rfl) ?_
  refine rd hK hR 0 rfl (by decide) ?_
  rw [hn]
  refine rn_eq m_in ?_
  simp only [lt_pred hb]
  exact rn_eq o_bool_ite (rn_some rfl)
theorem m_isStreet {v : Int32} (hK : KS sh z) (hR : d.1 (z + 243) = R) (hn : R 1 = nI (nn R 1)) (hb : nn R 1 < 2 ^ 31) : f_X12_isStreet N sh (z + 242) v d = some (if v < 0 ∨ nI (nn R 1) ≤ v then 0 else 1) := by
  refine rn_val ?_
  unfold f_X12_isStreet
  refine rn_t (ks_o hK 242 12 rfl) ?_
  refine rd hK hR 1 rfl (by decide) ?_
  rw [hn]
  refine rn_eq m_in ?_
  simp only [lt_pred hb]
  exact rn_eq o_bool_ite (rn_some rfl)
theorem m_isGauge {v : Int32} (hK : KS sh z) (hR : d.1 (z + 243) = R) (hn : R 2 = nI (nn R 2)) (hb : nn R 2 < 2 ^ 31) : f_X12_isGauge N sh (z + 242) v d = some (if v < 0 ∨ nI (nn R 2) ≤ v then 0 else 1) := by
  refine rn_val ?_
  unfold f_X12_isGauge
  refine rn_t (ks_o hK 242 12 rfl) ?_
  refine rd hK hR 2 rfl (by decide) ?_
  rw [hn]
  refine rn_eq m_in ?_
  simp only [lt_pred hb]
  exact rn_eq o_bool_ite (rn_some rfl)
theorem m_isPlough {v : Int32} (hK : KS sh z) (hR : d.1 (z + 243) = R) (hn : R 3 = nI (nn R 3)) (hb : nn R 3 < 2 ^ 31) : f_X12_isPlough N sh (z + 242) v d = some (if v < 0 ∨ nI (nn R 3) ≤ v then 0 else 1) := by
  refine rn_val ?_
  unfold f_X12_isPlough
  refine rn_t (ks_o hK 242 12 rfl) ?_
  refine rd hK hR 3 rfl (by decide) ?_
  rw [hn]
  refine rn_eq m_in ?_
  simp only [lt_pred hb]
  exact rn_eq o_bool_ite (rn_some rfl)
theorem m_st {v : Int32} (hK : KS sh z) : f_X12_st N sh (z + 242) v d = some ((16 : Int32) + (9 : Int32) * v) := if_pos (ks_o hK 242 12 rfl)
theorem m_ga {v : Int32} (hK : KS sh z) : f_X12_ga N sh (z + 242) v d = some ((1366 : Int32) + (3 : Int32) * v) := if_pos (ks_o hK 242 12 rfl)
theorem m_pl {v : Int32} (hK : KS sh z) : f_X12_pl N sh (z + 242) v d = some ((9426 : Int32) + (13 : Int32) * v) := if_pos (ks_o hK 242 12 rfl)
/-- what is kept: the row z + 244 as far as it reaches -/
def kp (R K : Nat → Int32) (i : Nat) : Nat → Int32 := fun k => if k < i then R k else K k
theorem keeps_loop (hK : KS sh z) : ∀ (m i fu : Nat) (d : Dt), i + m = 15642 → m < fu → d.1 (z + 243) = R → f_X12_keeps_2 N sh fu (z + 242) (nI i) d = some (wI (va_up d.1 (z + 244) (fun k => if i ≤ k ∧ k < 15642 then R k else d.1 (z + 244) k), d.2) (z + 242) 2 1)
  | 0, i, fu, d, hi, hf, hR => by
    obtain ⟨fu, rfl⟩ : ∃ q, fu = q + 1 := ⟨fu - 1, by omega⟩
    show g_X12_keeps_2 N sh (f_X12_keeps_2 N sh fu) (z + 242) (nI i) d = _
    refine rn_val ?_
    unfold g_X12_keeps_2
    have e : i = 15642 := by omega
    subst e
    refine rn_t (by decide) ?_
    unfold f_X12_keeps_27
    refine r_pI hK (i := 242) (c := 12) rfl (rn_some ?_)
    congr 1
    refine Prod.ext ?_ rfl
    funext b
    by_cases e : b = z + 244
    · subst e
      show d.1 (z + 244) = va_up d.1 (z + 244) _ (z + 244)
      rw [va_up_s]
      funext k
      rw [if_neg (by omega)]
    · show d.1 b = va_up d.1 (z + 244) _ b
      rw [va_up_n e]
  | m + 1, i, fu, d, hi, hf, hR => by
    obtain ⟨fu, rfl⟩ : ∃ q, fu = q + 1 := ⟨fu - 1, by omega⟩
    show g_X12_keeps_2 N sh (f_X12_keeps_2 N sh fu) (z + 242) (nI i) d = _
    refine rn_val ?_
    unfold g_X12_keeps_2
    refine rn_f (nI_ge (a := i) (b := 15642) (by omega) (by decide)) ?_
    refine r_gP hK 242 12 1 244 rfl (by decide) ?_
    refine rd hK hR i rfl (by omega) ?_
    refine rn_eq (q_sI (ks_a hK 244 0 15642 rfl) i rfl (by omega) (by decide)) ?_
    rw [nI_1, keeps_loop hK m (i + 1) fu (wI d (z + 244) i (R i)) (by omega) (by omega) (by rw [wI_n (by omega)]; exact hR)]
    refine rn_some ?_
    congr 1
    refine Prod.ext ?_ rfl
    funext b
    by_cases e : b = z + 244
    · subst e
      show va_up (wI d (z + 244) i (R i)).1 (z + 244) _ (z + 244) = va_up d.1 (z + 244) _ (z + 244)
      rw [va_up_s, va_up_s, wI_s]
      funext k
      by_cases h1 : k = i
      · subst h1
        rw [if_neg (by omega), if_pos (by omega), va_up_s]
      · rw [va_up_n h1]
        by_cases h2 : i ≤ k ∧ k < 15642
        · rw [if_pos (by omega), if_pos h2]
        · rw [if_neg (by omega), if_neg h2]
    · show va_up (wI d (z + 244) i (R i)).1 (z + 244) _ b = va_up d.1 (z + 244) _ b
      rw [va_up_n e, va_up_n e, wI_n e]
theorem m_keeps (hK : KS sh z) (hN : 15642 < N) (hR : d.1 (z + 243) = R) : f_X12_keeps N sh (z + 242) d = some (wI (va_up d.1 (z + 244) (fun k => if k < 15642 then R k else d.1 (z + 244) k), d.2) (z + 242) 2 1) := by
  unfold f_X12_keeps
  rw [if_pos (ks_o hK 242 12 rfl)]
  show f_X12_keeps_2 N sh N (z + 242) (nI 0) d = _
  rw [keeps_loop hK 15642 0 N d (by omega) (by omega) hR]
  simp
end RF
