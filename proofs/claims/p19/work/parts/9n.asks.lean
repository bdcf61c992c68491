/-! TAKES, PASSES; asks() -/
def kdP (R : Nat → Int32) (p : Nat) : Nat := nn R (9426 + 13 * p)
def kd1 (R : Nat → Int32) (p : Nat) : Nat := nn R (9426 + 13 * nn R (9426 + 13 * p + 3))
def kd2 (R : Nat → Int32) (p : Nat) : Nat := nn R (9426 + 13 * nn R (9426 + 13 * p + 4))
def tkN (k l : Nat) : Nat := (l + ksp k - 1) / ksp k + (if k = 2 then 2 else if k = 3 then 1 else 0)
def tkR (R : Nat → Int32) (p l : Nat) : Nat := if kdP R p = 4 then max (tkN (kd1 R p) l) (tkN (kd2 R p) l) else tkN (kdP R p) l
def rcR (R : Nat → Int32) (p : Nat) : Nat := if kdP R p = 4 then krc (kd1 R p) + krc (kd2 R p) else krc (kdP R p)
def psR (R : Nat → Int32) (p : Nat) (v : Int32) : Int32 := if nI (rcR R p) < v then (if kdP R p = 1 then (if (3 : Int32) * nI (rcR R p) < v then 0 else 3) else (if (2 : Int32) * nI (rcR R p) < v then 0 else 2)) else 1
section ASK
variable {s s' : AS} {sh : Sh} {d d' d0 : Dt} {z : Nat} {ow ow' : Nat → Nat} {R R' K : Nat → Int32} {u : Bool} {y : YL} {c N p k l a : Nat} {q q' : BL} {v : Int32}
theorem ksp_b : 20 ≤ ksp k ∧ ksp k ≤ 50 := by
  unfold ksp
  repeat' split
  all_goals decide
theorem krc_b : krc k ≤ 600 := by
  unfold krc
  repeat' split
  all_goals decide
theorem tkN_b (hl : l ≤ 10000) : tkN k l ≤ 11000 := by
  have h := ksp_b (k := k)
  have := Nat.div_le_self (l + ksp k - 1) (ksp k)
  unfold tkN
  split
  · omega
  · split <;> omega
theorem tkR_b (hl : l ≤ 10000) : tkR R p l ≤ 11000 := by
  have h1 := tkN_b (k := kd1 R p) hl
  have h2 := tkN_b (k := kd2 R p) hl
  have h3 := tkN_b (k := kdP R p) hl
  unfold tkR
  split <;> omega
theorem psR_v : psR R p v = 0 ∨ psR R p v = 1 ∨ psR R p v = 2 ∨ psR R p v = 3 := by
  unfold psR
  repeat' split
  all_goals simp
theorem div_nI (hl : l ≤ 10000) (hl1 : 1 ≤ l) : o_idiv ((nI l + nI (ksp k)) - (1 : Int32)) (nI (ksp k)) = some (nI ((l + ksp k - 1) / ksp k)) := by
  have h := ksp_b (k := k)
  unfold o_idiv
  rw [if_neg (nI_ne0 (by omega) (by omega)), nI_add, show (1 : Int32) = nI 1 from rfl, pk_sub (by omega), pk_div (by omega) (by omega) (by omega)]
theorem bo_lg (h : BO sh d z ow a k) (hl : LG z d d') : BO sh d' z ow a k := by
  obtain ⟨h1, h2, h3, h4, h5, h6, h7, h8⟩ := h
  have e : d'.1 a = d.1 a := hl.2 a (by omega) (by omega)
  exact ⟨h1, h2, h3, h4, by rw [e]; exact h5, by rw [e]; exact h6, h7, h8⟩
theorem bo_isO (h : BO sh d z ow a k) (hk : k ≤ 3) : isO sh a 6 := by
  refine ⟨h.1, h.2.1, ?_⟩
  rw [h.2.2.1]
  rcases (show k = 0 ∨ k = 1 ∨ k = 2 ∨ k = 3 by omega) with rfl | rfl | rfl | rfl <;> simp [kcl]
theorem x6_takes (hK : KS sh z) (hb : BO sh d z ow a k) (hk : k ≤ 3) (hl : l ≤ 10000) (hl1 : 1 ≤ l) : Rn (f_X6_takes N sh a (nI l) d) (fun r => r.1 = nI ((l + ksp k - 1) / ksp k) ∧ LG z d r.2) := by
  have hi := bo_isO hb hk
  have hs := ksp_b (k := k)
  have h8 := hb.2.2.2.2.2.2.2
  unfold f_X6_takes f_X6_takes_37
  refine rn_t hi ?_
  refine rn_eq (v := z + 1) (by unfold gP; rw [if_pos hi]; exact hb.2.2.2.1) ?_
  refine r_gI hK (i := 1) (c := 2) rfl ?_
  refine r_pI hK (i := 1) (c := 2) rfl ?_
  have e : ∀ w, (wI d (z + 1) 2 w).1 a 1 = nI (ksp k) := fun w => by
    rw [wI_n (by omega)]
    exact hb.2.2.2.2.1
  refine rn_eq (v := nI (ksp k)) (by unfold gI; rw [if_pos hi, e]) ?_
  refine rn_f (nI_nle (by omega) (by omega)) ?_
  refine rn_eq (v := nI (ksp k)) (by unfold gI; rw [if_pos hi, e]) ?_
  refine rn_eq (v := nI (ksp k)) (by unfold gI; rw [if_pos hi, e]) ?_
  refine rn_eq (div_nI hl hl1) (rn_some ⟨rfl, LG.w1⟩)
theorem k_takes0 (hK : KS sh z) (hb : BO sh d z ow a k) (hk : k ≤ 3) (hl : l ≤ 10000) (hl1 : 1 ≤ l) : Rn (v_takes0 N sh a (nI l) d) (fun r => r.1 = nI (tkN k l) ∧ LG z d r.2) := by
  have hi := bo_isO hb hk
  have h3 := hb.2.2.1
  have h8 := hb.2.2.2.2.2.2.2
  unfold v_takes0 tkN
  rcases (show k = 0 ∨ k = 1 ∨ k = 2 ∨ k = 3 by omega) with rfl | rfl | rfl | rfl
  · exact rn_t (Or.inl h3) (x6_takes hK hb hk hl hl1)
  · exact rn_t (Or.inr h3) (x6_takes hK hb hk hl hl1)
  · have h3 : sh.2.1 a = 17 := h3
    have hi7 : isO sh a 7 := ⟨hi.1, hi.2.1, Or.inl h3⟩
    refine rn_f (by rw [h3]; decide) (rn_t h3 ?_)
    unfold f_X7_takes
    refine rn_t hi7 ?_
    refine rn_eq (v := z + 1) (by unfold gP; rw [if_pos hi7]; exact hb.2.2.2.1) ?_
    refine r_gI hK (i := 1) (c := 2) rfl ?_
    refine r_pI hK (i := 1) (c := 2) rfl ?_
    refine rn_bind (x6_takes hK (bo_lg hb LG.w1) hk hl hl1) (fun r hr => rn_some ⟨?_, LG.w1.tr hr.2⟩)
    rw [hr.1]
    exact nI_add _ 2
  · have h3 : sh.2.1 a = 19 := h3
    have hi9 : isO sh a 9 := ⟨hi.1, hi.2.1, Or.inl h3⟩
    refine rn_f (by rw [h3]; decide) (rn_f (by rw [h3]; decide) (rn_t h3 ?_))
    unfold f_X9_takes
    refine rn_t hi9 ?_
    refine rn_eq (v := z + 1) (by unfold gP; rw [if_pos hi9]; exact hb.2.2.2.1) ?_
    refine r_gI hK (i := 1) (c := 2) rfl ?_
    refine r_pI hK (i := 1) (c := 2) rfl ?_
    refine rn_bind (x6_takes hK (bo_lg hb LG.w1) hk hl hl1) (fun r hr => rn_some ⟨?_, LG.w1.tr hr.2⟩)
    rw [hr.1]
    exact nI_add _ 1
/-- the kinds of a PAIR's two -/
def WPk (R : Nat → Int32) : Prop := ∀ p, p < nn R 3 → kdP R p ≤ 4 ∧ (kdP R p = 4 → nn R (9426 + 13 * p + 3) < nn R 3 ∧ nn R (9426 + 13 * p + 4) < nn R 3 ∧ kd1 R p ≤ 3 ∧ kd2 R p ≤ 3 ∧ R (9426 + 13 * p + 3) = nI (nn R (9426 + 13 * p + 3)) ∧ R (9426 + 13 * p + 4) = nI (nn R (9426 + 13 * p + 4))) ∧ R (9426 + 13 * p) = nI (kdP R p)
theorem wpk_of (hR : WF R) : WPk R := fun p hp => by
  have n3 := hR.1.2.2.2.1.2
  obtain ⟨h1, h2, -⟩ := hR.2.2.2.2.1 p hp
  refine ⟨h1.2, fun h4 => ?_, h1.1⟩
  obtain ⟨a, b, b1, b2, b3, b4, b5, b6⟩ := h2 h4
  have ea : nn R (9426 + 13 * p + 3) = a := by
    unfold nn
    rw [b3, nI_clamp (by omega)]
  have eb : nn R (9426 + 13 * p + 4) = b := by
    unfold nn
    rw [b4, nI_clamp (by omega)]
  unfold kd1 kd2
  rw [ea, eb]
  exact ⟨b1, b2, b5, b6, b3, b4⟩
theorem k_takes (hK : KS sh z) (hW : WPk R) (hp : p < nn R 3) (hb : BD sh d z ow R p a) (hl : l ≤ 10000) (hl1 : 1 ≤ l) : Rn (v_takes N sh a (nI l) d) (fun r => r.1 = nI (tkR R p l) ∧ LG z d r.2) := by
  have w := hW p hp
  unfold v_takes tkR
  rcases hb with ⟨hk, hb⟩ | ⟨hk, hb⟩
  · have hk : kdP R p ≤ 3 := hk
    have hb : BO sh d z ow a (kdP R p) := hb
    have h3 := hb.2.2.1
    rw [if_neg (show ¬ kdP R p = 4 by omega)]
    refine rn_f ?_ (k_takes0 hK hb hk hl hl1)
    rw [h3]
    rcases (show kdP R p = 0 ∨ kdP R p = 1 ∨ kdP R p = 2 ∨ kdP R p = 3 by omega) with e | e | e | e <;> rw [e] <;> decide
  · have hk : kdP R p = 4 := hk
    obtain ⟨g1, g2, g3, g4, g5, g6, g7, g8, a1, a2, g9, g10, g11, g12⟩ := hb
    have g11 : BO sh d z ow a1 (kd1 R p) := g11
    have g12 : BO sh d z ow a2 (kd2 R p) := g12
    obtain ⟨-, -, k1, k2, -⟩ := w.2.1 hk
    have i3 : isO sh a 3 := ⟨g1, g2, Or.inl g3⟩
    rw [if_pos hk]
    refine rn_t g3 ?_
    unfold f_X3_takes
    refine rn_t i3 ?_
    refine rn_eq (v := z + 1) (by unfold gP; rw [if_pos i3]; exact g4) ?_
    refine r_gI hK (i := 1) (c := 2) rfl ?_
    refine r_pI hK (i := 1) (c := 2) rfl ?_
    refine rn_eq (v := a1) (by unfold gP; rw [if_pos i3]; exact g9) ?_
    refine rn_bind (k_takes0 hK (bo_lg g11 LG.w1) k1 hl hl1) (fun r hr => ?_)
    refine rn_eq (v := a2) (by unfold gP; rw [if_pos i3]; exact g10) ?_
    refine rn_bind (k_takes0 hK (bo_lg g12 (LG.w1.tr hr.2)) k2 hl hl1) (fun r2 hr2 => rn_some ⟨?_, (LG.w1.tr hr.2).tr hr2.2⟩)
    rw [hr.1, hr2.1]
    have t1 := tkN_b (k := kd1 R p) hl
    have t2 := tkN_b (k := kd2 R p) hl
    exact o_max_nI (by omega) (by omega)
theorem upto {m : Int32} {rc : Nat} (hi : isO sh a 6) (h2 : d.1 a 2 = nI rc) : f_X6_passesUpTo N sh a v m d = some (if nI rc < v then (if m * nI rc < v then 0 else m) else 1) := by
  refine rn_val ?_
  unfold f_X6_passesUpTo f_X6_passesUpTo_25
  refine rn_t hi ?_
  refine rn_eq (v := nI rc) (by unfold gI; rw [if_pos hi, h2]) ?_
  refine rn_ite (fun h => ?_) (fun h => ?_)
  · refine rn_eq (v := nI rc) (by unfold gI; rw [if_pos hi, h2]) ?_
    rw [if_pos h]
    refine rn_ite (fun h3 => ?_) (fun h3 => ?_)
    · rw [if_pos h3]
      exact rn_some rfl
    · rw [if_neg h3]
      exact rn_some rfl
  · rw [if_neg h]
    exact rn_some rfl
theorem k_passes (hK : KS sh z) (hW : WPk R) (hp : p < nn R 3) (hb : BD sh d z ow R p a) : Rn (v_passes N sh a v d) (fun r => r.1 = psR R p v ∧ LG z d r.2) := by
  have w := hW p hp
  unfold v_passes psR rcR
  rcases hb with ⟨hk, hb⟩ | ⟨hk, hb⟩
  · have hk : kdP R p ≤ 3 := hk
    have hb : BO sh d z ow a (kdP R p) := hb
    have h3 := hb.2.2.1
    have hi := bo_isO hb hk
    have h8 := hb.2.2.2.2.2.2.2
    have e2 : ∀ w, (wI d (z + 1) 2 w).1 a 2 = nI (krc (kdP R p)) := fun w => by
      rw [wI_n (by omega)]
      exact hb.2.2.2.2.2.1
    rw [if_neg (show ¬ kdP R p = 4 by omega)]
    by_cases h1 : kdP R p = 1
    · rw [h1] at h3
      have h3 : sh.2.1 a = 10 := h3
      have i0 : isO sh a 0 := ⟨hi.1, hi.2.1, Or.inl h3⟩
      refine rn_t h3 ?_
      unfold f_X0_passes
      refine rn_t i0 ?_
      refine rn_eq (v := z + 1) (by unfold gP; rw [if_pos i0]; exact hb.2.2.2.1) ?_
      refine r_gI hK (i := 1) (c := 2) rfl ?_
      refine r_pI hK (i := 1) (c := 2) rfl ?_
      refine rn_eq (upto hi (e2 _)) (rn_some ⟨?_, LG.w1⟩)
      simp only [if_pos h1]
    · have hn : sh.2.1 a ≠ 10 ∧ sh.2.1 a ≠ 13 := by
        rw [h3]
        rcases (show kdP R p = 0 ∨ kdP R p = 2 ∨ kdP R p = 3 by omega) with e | e | e <;> rw [e] <;> decide
      refine rn_f hn.1 (rn_f hn.2 ?_)
      unfold f_X6_passes
      refine rn_t hi ?_
      refine rn_eq (v := z + 1) (by unfold gP; rw [if_pos hi]; exact hb.2.2.2.1) ?_
      refine r_gI hK (i := 1) (c := 2) rfl ?_
      refine r_pI hK (i := 1) (c := 2) rfl ?_
      refine rn_eq (upto hi (e2 _)) (rn_some ⟨?_, LG.w1⟩)
      simp only [if_neg h1]
  · have hk : kdP R p = 4 := hk
    obtain ⟨g1, g2, g3, g4, g5, g6, g7, g8, a1, a2, g9, g10, g11, g12⟩ := hb
    have g6 : d.1 a 2 = nI (krc (kd1 R p) + krc (kd2 R p)) := g6
    have i3 : isO sh a 3 := ⟨g1, g2, Or.inl g3⟩
    have hi : isO sh a 6 := ⟨g1, g2, by rw [g3]; simp⟩
    have e2 : ∀ w, (wI d (z + 1) 2 w).1 a 2 = nI (krc (kd1 R p) + krc (kd2 R p)) := fun w => by
      rw [wI_n (by omega)]
      exact g6
    rw [if_pos hk]
    refine rn_f (by rw [g3]; decide) (rn_t g3 ?_)
    unfold f_X3_passes
    refine rn_t i3 ?_
    refine rn_eq (v := z + 1) (by unfold gP; rw [if_pos i3]; exact g4) ?_
    refine r_gI hK (i := 1) (c := 2) rfl ?_
    refine r_pI hK (i := 1) (c := 2) rfl ?_
    refine rn_eq (upto hi (e2 _)) (rn_some ⟨?_, LG.w1⟩)
    simp only [if_neg (show ¬ kdP R p = 1 by omega)]
/-! the reference -/
theorem m_speedOf (hk : k ≤ 3) : f_X12_speedOf N sh (nI k) d = some (nI (ksp k)) := by
  refine rn_val ?_
  unfold f_X12_speedOf f_X12_speedOf_31
  rcases (show k = 0 ∨ k = 1 ∨ k = 2 ∨ k = 3 by omega) with rfl | rfl | rfl | rfl
  · exact rn_f (by decide) (rn_some rfl)
  · exact rn_t (by decide) (rn_f (by decide) (rn_some rfl))
  · exact rn_t (by decide) (rn_t (by decide) (rn_f (by decide) (rn_some rfl)))
  · exact rn_t (by decide) (rn_t (by decide) (rn_t (by decide) (rn_some rfl)))
theorem m_reachOf (hk : k ≤ 3) : f_X12_reachOf N sh (nI k) d = some (nI (krc k)) := by
  refine rn_val ?_
  unfold f_X12_reachOf f_X12_reachOf_25
  rcases (show k = 0 ∨ k = 1 ∨ k = 2 ∨ k = 3 by omega) with rfl | rfl | rfl | rfl
  · exact rn_t (by decide) (rn_t (by decide) (rn_some rfl))
  · exact rn_f (by decide) (rn_some rfl)
  · exact rn_t (by decide) (rn_t (by decide) (rn_some rfl))
  · exact rn_t (by decide) (rn_f (by decide) (rn_some rfl))
theorem m_takesOf (hK : KS sh z) (hk : k ≤ 3) (hl : l ≤ 10000) (hl1 : 1 ≤ l) : Rn (f_X12_takesOf N sh (z + 242) (nI k) (nI l) d) (fun r => r.1 = nI (tkN k l) ∧ RG z d r.2) := by
  unfold f_X12_takesOf f_X12_takesOf_40 f_X12_takesOf_70 tkN
  refine rn_t (ks_o hK 242 12 rfl) ?_
  refine rn_eq (m_speedOf hk) ?_
  refine rn_eq (div_nI hl hl1) ?_
  refine r_gI hK (i := 242) (c := 12) rfl ?_
  have g4 : ∀ w, RG z d (wI d (z + 242) 4 w) := fun w => RG.w242 (Or.inr (Or.inl rfl))
  rcases (show k = 0 ∨ k = 1 ∨ k = 2 ∨ k = 3 by omega) with rfl | rfl | rfl | rfl
  · refine rn_t (by decide) (rn_t (by decide) ?_)
    refine r_pI hK (i := 242) (c := 12) rfl ?_
    exact rn_t (by decide) (rn_t (by decide) (rn_some ⟨rfl, g4 _⟩))
  · refine rn_t (by decide) (rn_t (by decide) ?_)
    refine r_pI hK (i := 242) (c := 12) rfl ?_
    exact rn_t (by decide) (rn_t (by decide) (rn_some ⟨rfl, g4 _⟩))
  · refine rn_t (by decide) (rn_f (by decide) ?_)
    refine r_pI hK (i := 242) (c := 12) rfl ?_
    exact rn_t (by decide) (rn_f (by decide) (rn_some ⟨nI_add _ 2, g4 _⟩))
  · refine rn_f (by decide) ?_
    refine r_pI hK (i := 242) (c := 12) rfl ?_
    exact rn_f (by decide) (rn_some ⟨nI_add _ 1, g4 _⟩)
theorem m_first (hK : KS sh z) (hN : WN R) (hW : WPk R) (hA : AG (d.1 (z + 243)) R) (hp : p < nn R 3) (h4 : kdP R p = 4) : f_X12_first N sh (z + 242) (nI p) d = some (nI (kd1 R p)) ∧ f_X12_second N sh (z + 242) (nI p) d = some (nI (kd2 R p)) := by
  have n3 := hN.2.2.2.1.2
  obtain ⟨w1, w2, w3, w4, w5, w6⟩ := (hW p hp).2.1 h4
  refine ⟨rn_val ?_, rn_val ?_⟩
  · unfold f_X12_first
    refine rn_t (ks_o hK 242 12 rfl) ?_
    refine rdpl hK hA 3 (by omega) (by decide) rfl ?_
    rw [w5]
    refine rn_eq (m_kindOf hK hA (by omega)) (rn_some ?_)
    exact (hW _ w1).2.2
  · unfold f_X12_second
    refine rn_t (ks_o hK 242 12 rfl) ?_
    refine rdpl hK hA 4 (by omega) (by decide) rfl ?_
    rw [w6]
    refine rn_eq (m_kindOf hK hA (by omega)) (rn_some ?_)
    exact (hW _ w2).2.2
theorem RG.ag (h : RG z d d') (hA : AG (d.1 (z + 243)) R) : AG (d'.1 (z + 243)) R := by
  rw [h.2.1 (z + 243) (by omega) (by omega)]
  exact hA
theorem m_takes (hK : KS sh z) (hN : WN R) (hW : WPk R) (hA : AG (d.1 (z + 243)) R) (hp : p < nn R 3) (hl : l ≤ 10000) (hl1 : 1 ≤ l) : Rn (f_X12_takes N sh (z + 242) (nI p) (nI l) d) (fun r => r.1 = nI (tkR R p l) ∧ RG z d r.2) := by
  have n3 := hN.2.2.2.1.2
  have w := hW p hp
  unfold f_X12_takes f_X12_takes_65 tkR
  refine rn_t (ks_o hK 242 12 rfl) ?_
  refine rn_eq (m_kindOf hK hA (by omega)) ?_
  rw [w.2.2]
  by_cases h4 : kdP R p = 4
  · obtain ⟨w1, w2, w3, w4, w5, w6⟩ := w.2.1 h4
    rw [if_pos h4]
    refine rn_t (by rw [h4]; rfl) ?_
    refine r_gI hK (i := 242) (c := 12) rfl ?_
    refine r_pI hK (i := 242) (c := 12) rfl ?_
    have g4 : ∀ w, RG z d (wI d (z + 242) 4 w) := fun w => RG.w242 (Or.inr (Or.inl rfl))
    refine rn_eq (m_first hK hN hW ((g4 _).ag hA) hp h4).1 ?_
    refine rn_bind (m_takesOf hK w3 hl hl1) (fun r hr => ?_)
    refine rn_eq (m_first hK hN hW (hr.2.ag ((g4 _).ag hA)) hp h4).2 ?_
    refine rn_bind (m_takesOf hK w4 hl hl1) (fun r2 hr2 => ?_)
    have t1 := tkN_b (k := kd1 R p) hl
    have t2 := tkN_b (k := kd2 R p) hl
    rw [hr.1, hr2.1]
    refine rn_ite (fun h5 => ?_) (fun h5 => ?_)
    · refine rn_some ⟨?_, ((g4 _).tr hr.2).tr hr2.2⟩
      rw [Nat.max_eq_right ((nI_leI (by omega) (by omega)).mp h5)]
    · refine rn_some ⟨?_, ((g4 _).tr hr.2).tr hr2.2⟩
      have : ¬ tkN (kd1 R p) l ≤ tkN (kd2 R p) l := fun q => h5 (nI_le q (by omega))
      rw [Nat.max_eq_left (by omega)]
  · rw [if_neg h4]
    refine rn_f (fun e => h4 (nI_inj (b := 4) e (by omega) (by decide))) ?_
    refine rn_eq (m_kindOf hK hA (by omega)) ?_
    rw [w.2.2]
    refine rn_bind (m_takesOf hK (by omega) hl hl1) (fun r hr => rn_some hr)
theorem m_reach (hK : KS sh z) (hN : WN R) (hW : WPk R) (hA : AG (d.1 (z + 243)) R) (hp : p < nn R 3) : f_X12_reach N sh (z + 242) (nI p) d = some (nI (rcR R p)) := by
  have n3 := hN.2.2.2.1.2
  have w := hW p hp
  refine rn_val ?_
  unfold f_X12_reach f_X12_reach_37 rcR
  refine rn_t (ks_o hK 242 12 rfl) ?_
  refine rn_eq (m_kindOf hK hA (by omega)) ?_
  rw [w.2.2]
  by_cases h4 : kdP R p = 4
  · obtain ⟨w1, w2, w3, w4, w5, w6⟩ := w.2.1 h4
    rw [if_pos h4]
    refine rn_f (fun q => q (by rw [h4]; rfl)) ?_
    refine rn_eq (m_first hK hN hW hA hp h4).1 ?_
    refine rn_eq (m_reachOf w3) ?_
    refine rn_eq (m_first hK hN hW hA hp h4).2 ?_
    refine rn_eq (m_reachOf w4) ?_
    rw [nI_add]
    exact rn_some rfl
  · rw [if_neg h4]
    refine rn_t (fun e => h4 (nI_inj (b := 4) e (by omega) (by decide))) ?_
    refine rn_eq (m_kindOf hK hA (by omega)) ?_
    rw [w.2.2]
    exact rn_eq (m_reachOf (by omega)) (rn_some rfl)
theorem m_passes (hK : KS sh z) (hN : WN R) (hW : WPk R) (hA : AG (d.1 (z + 243)) R) (hp : p < nn R 3) : Rn (f_X12_passes N sh (z + 242) (nI p) v d) (fun r => r.1 = psR R p v ∧ RG z d r.2) := by
  have n3 := hN.2.2.2.1.2
  have w := hW p hp
  have g4 : ∀ w, RG z d (wI d (z + 242) 4 w) := fun w => RG.w242 (Or.inr (Or.inl rfl))
  have fin : ∀ v3 t, Rn (f_X12_passes_44 N sh v (nI (rcR R p)) (nI (kdP R p)) (z + 242) v3 t d) (fun r => r.1 = psR R p v ∧ RG z d r.2) := fun v3 t => by
    unfold f_X12_passes_44 f_X12_passes_88 psR
    refine r_pI hK (i := 242) (c := 12) rfl ?_
    refine rn_ite (fun h1 => ?_) (fun h1 => ?_)
    · rw [if_pos h1]
      by_cases h2 : kdP R p = 1
      · rw [if_pos h2]
        refine rn_f (fun q => q (by rw [h2]; rfl)) ?_
        refine rn_ite (fun h3 => ?_) (fun h3 => ?_)
        · rw [if_pos h3]
          exact rn_some ⟨rfl, g4 _⟩
        · rw [if_neg h3]
          exact rn_some ⟨rfl, g4 _⟩
      · rw [if_neg h2]
        refine rn_t (fun e => h2 (nI_inj (b := 1) e (by omega) (by decide))) ?_
        refine rn_ite (fun h3 => ?_) (fun h3 => ?_)
        · rw [if_pos h3]
          exact rn_some ⟨rfl, g4 _⟩
        · rw [if_neg h3]
          exact rn_some ⟨rfl, g4 _⟩
    · rw [if_neg h1]
      exact rn_some ⟨rfl, g4 _⟩
  unfold f_X12_passes
  refine rn_t (ks_o hK 242 12 rfl) ?_
  refine rn_eq (m_reach hK hN hW hA hp) ?_
  refine rn_eq (m_kindOf hK hA (by omega)) ?_
  rw [w.2.2]
  refine r_gI hK (i := 242) (c := 12) rfl ?_
  refine rn_ite (fun _ => ?_) (fun _ => fin _ _)
  exact rn_ite (fun _ => fin _ _) (fun _ => fin _ _)
theorem rr_rg {v : Int32} {d1 : Dt} (hK : KS sh z) (h : RI d z R K u) (hd : RG z d d1) : Rn ((f_X12_says N sh (z + 242) v d1).bind fun r => some (r.1, r.2)) (RR z R K u d) ∧ Rn ((f_X12_refuses N sh (z + 242) v d1).bind fun r => some (r.1, r.2)) (RR z R K u d) := ⟨rr_says hK (ri_rg h hd) hd.mfr, rr_refuses hK (ri_rg h hd) hd.mfr⟩
theorem m_asks {x t w : Int32} (hK : KS sh z) (h : RI d z R K u) (hR : WF R) : Rn (f_X12_asks N sh (z + 242) x t w d) (RR z R K u d) := by
  have hN := hR.1
  have n3 := hN.2.2.2.1.2
  have n1 := hN.2.1.2
  have hW := wpk_of hR
  unfold f_X12_asks f_X12_asks_25 f_X12_asks_166
  refine rn_t (ks_o hK 242 12 rfl) ?_
  refine rn_eq (ri_isPlough hK h hN) ?_
  refine rn_ite (fun _ => rr_refuses hK h MFR.rf) (fun h1 => ?_)
  obtain ⟨p, hp, rfl, -⟩ := st_of (by omega) (fun q => h1 (ite01.mpr q))
  refine rn_eq (ri_isStreet hK h hN) ?_
  refine rn_ite (fun _ => rr_refuses hK h MFR.rf) (fun h2 => ?_)
  obtain ⟨i, hi, rfl, -⟩ := st_of (by omega) (fun q => h2 (ite01.mpr q))
  obtain ⟨-, ⟨l1, l2, l3⟩, -⟩ := hR.2.2.1 i hi
  refine rn_eq m_in ?_
  refine rn_ite (fun h3 => ?_) (fun _ => rr_refuses hK h MFR.rf)
  refine rdpl hK h.1 2 (by omega) (by decide) rfl ?_
  refine rn_ite (fun _ => ?_) (fun _ => rr_refuses hK h MFR.rf)
  refine rn_ite (fun _ => ?_) (fun _ => ?_)
  · refine rn_bind (P := fun _ => True) ?_ (fun v _ => rr_says hK h MFR.rf)
    have wk := hW p hp
    unfold f_X12_speed f_X12_speed_39
    refine rn_t (ks_o hK 242 12 rfl) ?_
    refine rn_eq (m_kindOf hK h.1 (by omega)) ?_
    rw [wk.2.2]
    by_cases h4 : kdP R p = 4
    · obtain ⟨w1, w2, w3, w4, w5, w6⟩ := wk.2.1 h4
      refine rn_f (fun q => q (by rw [h4]; rfl)) ?_
      refine rn_eq (m_first hK hN hW h.1 hp h4).1 ?_
      refine rn_eq (m_speedOf w3) ?_
      refine rn_eq (m_first hK hN hW h.1 hp h4).2 ?_
      refine rn_eq (m_speedOf w4) ?_
      exact rn_eq m_lesser (rn_some trivial)
    · refine rn_t (fun e => h4 (nI_inj (b := 4) e (by omega) (by decide))) ?_
      refine rn_eq (m_kindOf hK h.1 (by omega)) ?_
      rw [wk.2.2]
      exact rn_eq (m_speedOf (by omega)) (rn_some trivial)
  refine rn_ite (fun _ => rn_eq (m_reach hK hN hW h.1 hp) (rr_says hK h MFR.rf)) (fun _ => ?_)
  refine rn_ite (fun _ => ?_) (fun _ => ?_)
  · refine rds hK h.1 6 (by omega) (by decide) rfl ?_
    rw [l1]
    refine rn_bind (m_takes hK hN hW h.1 hp l3 l2) (fun r hr => ?_)
    exact (rr_rg hK h hr.2).1
  · refine rds hK h.1 0 (by omega) (by decide) rfl ?_
    refine rn_bind (m_passes hK hN hW h.1 hp) (fun r hr => ?_)
    exact rn_ite (fun _ => (rr_rg hK h hr.2).1) (fun _ => (rr_rg hK h hr.2).2)
theorem k_asks {x t w : Int32} (h : CI s z ow R K u y c) (hR : WF R) : Rn (f_X11_asks N s.1 z x t w s.2) (KR z R K u c s) := by
  have hK := h.1
  have hN := hR.1
  have n3 := hN.2.2.2.1.2
  have n1 := hN.2.1.2
  have hW := wpk_of hR
  have hB : BK s.1 s.2 z ow 3 R y.1 := h.2.2.1
  have fin : ∀ (v : Int32) d1, LG z s.2 d1 → Rn ((f_X11_answer N s.1 z v d1).bind fun r => some (r.1, r.2)) (KR z R K u c s) ∧ Rn ((f_X11_refuse N s.1 z v d1).bind fun r => some (r.1, r.2)) (KR z R K u c s) := fun v d1 hd => by
    have q := ci_lg h hd
    exact ⟨rn_bind (k_answer hK) (fun r hr => rn_some (kr_lg q.1 q.2 hr)), rn_bind (k_refuse hK) (fun r hr => rn_some (kr_lg q.1 q.2 hr))⟩
  unfold f_X11_asks f_X11_asks_37 f_X11_asks_178
  refine rn_t (ks_o hK 0 11 rfl) ?_
  refine r_now hK 3 20 (by decide) ?_
  refine rn_eq (tb_has (o := 20) (nc := 9) hK (by decide) hB.2.2.2.1) ?_
  refine rn_ite (fun _ => kr_refuses h) (fun h1 => ?_)
  obtain ⟨p, hp, rfl, -⟩ := st_of (by omega) (fun q => h1 (ite01.mpr q))
  refine r_now hK 1 4 (by decide) ?_
  refine rn_eq (tb_has (o := 4) (nc := 9) hK (by decide) hB.2.1) ?_
  refine rn_ite (fun _ => kr_refuses h) (fun h2 => ?_)
  obtain ⟨i, hi, rfl, -⟩ := st_of (by omega) (fun q => h2 (ite01.mpr q))
  obtain ⟨-, ⟨l1, l2, l3⟩, -⟩ := hR.2.2.1 i hi
  refine rn_ite (fun _ => kr_refuses h) (fun h3 => ?_)
  refine rn_ite (fun h4 => ?_) (fun _ => kr_refuses h)
  refine r_gP hK 0 11 1 3 rfl (by decide) ?_
  refine rn_eq (k_isOut (Or.inl rfl) hR hK hB.2.2.2.1 hp) ?_
  refine rn_ite (fun _ => ?_) (fun _ => kr_refuses h)
  obtain ⟨a, a1, a2, a3, a4⟩ := k_body hK h.2.2.2.2.2.1 hp hN
  have a4 : BD s.1 s.2 z ow R p a := a4
  have hi6 : isO s.1 a 6 := by
    rcases a4 with ⟨q1, q2⟩ | ⟨q1, q2⟩
    · exact bo_isO q2 q1
    · exact ⟨q2.1, q2.2.1, by rw [q2.2.2.1]; simp⟩
  refine r_gP hK 0 11 6 235 rfl (by decide) ?_
  refine rn_eq a1 ?_
  refine rn_ite (fun _ => ?_) (fun _ => ?_)
  · exact rn_eq (v := s.2.1 a 1) (by unfold gI; rw [if_pos hi6]) (kr_says h)
  refine rn_ite (fun _ => ?_) (fun _ => ?_)
  · exact rn_eq (v := s.2.1 a 2) (by unfold gI; rw [if_pos hi6]) (kr_says h)
  refine rn_ite (fun _ => ?_) (fun _ => ?_)
  · refine r_now hK 1 4 (by decide) ?_
    refine rn_eq (tb_get (o := 4) (nc := 9) (c := 6) hK (by decide) hB.2.1 rfl hi rfl (by decide)) ?_
    have ev : vS R 6 i = nI (sln R i) := l1
    rw [ev]
    refine rn_bind (k_takes hK hW hp a4 l3 l2) (fun r hr => ?_)
    exact (fin _ _ hr.2).1
  · refine r_now hK 1 4 (by decide) ?_
    refine rn_eq (tb_get (o := 4) (nc := 9) (c := 0) hK (by decide) hB.2.1 rfl hi rfl (by decide)) ?_
    refine rn_bind (k_passes hK hW hp a4) (fun r hr => ?_)
    exact rn_ite (fun _ => (fin _ _ hr.2).1) (fun _ => (fin _ _ hr.2).2)
end ASK
