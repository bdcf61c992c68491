/-! 9zt1.ans.lean.txt -/
/-! at part: what they answer -/
def sp_at (R : Nat → Int32) (x w : Int32) : Int32 × Option (Nat → Int32) := if w < 0 ∨ 3 < w then (-2, none) else if x < 0 ∨ nI (nn R 4) ≤ x then (-1, none) else (vD R w.toNatClampNeg x.toNatClampNeg, none)
def sp_part (R : Nat → Int32) (x w : Int32) : Int32 × Option (Nat → Int32) := if x < 0 ∨ nI (nn R 3) ≤ x then (-2, none) else if w < 0 ∨ 8 < w then (-2, none) else (vP R w.toNatClampNeg x.toNatClampNeg, none)
section ANS
variable {s : AS} {sh : Sh} {d d0 d' : Dt} {z : Nat} {ow : Nat → Nat} {R K : Nat → Int32} {u : Bool} {y : YL} {N cc : Nat}
theorem kd_refuses {v : Int32} {o : Int32 × Option (Nat → Int32)} (h : CI s z ow R K u y cc) (ho : o = (v, none)) : Rn ((f_X11_refuse N s.1 z v s.2).bind fun r => some (r.1, r.2)) (KD z R K u cc o s) := by
  refine rn_bind (k_refuse h.1) (fun r hr => rn_some ?_)
  exact ko_lg h hr ho
theorem kd_says {v : Int32} {o : Int32 × Option (Nat → Int32)} (h : CI s z ow R K u y cc) (ho : o = (v, none)) : Rn ((f_X11_answer N s.1 z v s.2).bind fun r => some (r.1, r.2)) (KD z R K u cc o s) := by
  refine rn_bind (k_answer h.1) (fun r hr => rn_some ?_)
  exact ko_lg h hr ho
theorem wk_at {x w : Int32} : WKo (sp_at R x w) := fun R' e => by
  unfold sp_at at e
  split at e
  · cases e
  · split at e
    · cases e
    · cases e
theorem wk_part {x w : Int32} : WKo (sp_part R x w) := fun R' e => by
  unfold sp_part at e
  split at e
  · cases e
  · split at e
    · cases e
    · cases e
theorem lt_9n {w : Int32} {n : Nat} (hn : n < 2 ^ 31) (h0 : 0 < n) : (w < 0 ∨ nI (n - 1) < w) ↔ (w < 0 ∨ nI n ≤ w) := by
  have e := lt_pred (v := w) hn
  have e2 : nI n - 1 = nI (n - 1) := by
    obtain ⟨m, rfl⟩ : ∃ m, n = m + 1 := ⟨n - 1, by omega⟩
    exact nI_pred m
  rw [e2] at e
  rw [e]
theorem k_at2 {x x2 : Int32} (h : CI s z ow R K u y cc) (hR : WF R) : Rn (f_X11_at N s.1 z x x2 s.2) (KD z R K u cc (sp_at R x x2) s) := by
  have hK := h.1
  have n4 := hR.1.2.2.2.2.2
  have hT := h.2.2.1.2.2.2.2.1
  unfold f_X11_at f_X11_at_9 f_X11_at_47
  refine rn_t (ks_o hK 0 11 rfl) ?_
  have e4 : (x2 < 0 ∨ 3 < x2) ↔ (x2 < 0 ∨ nI 4 ≤ x2) := lt_9n (n := 4) (by decide) (by decide)
  refine rn_ite (fun q1 => kd_refuses h (if_pos (Or.inl q1))) (fun q1 => ?_)
  refine rn_ite (fun q2 => ?_) (fun q2 => kd_refuses h (if_pos (e4.mpr (Or.inr (Int32.not_lt.mp q2)))))
  have q3 : ¬ (x2 < 0 ∨ nI 4 ≤ x2) := fun r => r.elim q1 (show ¬ (nI 4 ≤ x2) from Int32.not_le.mpr q2)
  have q4 : ¬ (x2 < 0 ∨ 3 < x2) := fun r => q3 (e4.mp r)
  rw [show sp_at R x x2 = _ from if_neg q4]
  obtain ⟨c, hc, rfl, ec⟩ := st_of (x := x2) (n := 4) (by omega) q3
  refine r_gP hK 0 11 1 3 rfl (by decide) ?_
  refine r_gP hK 3 1 4 31 rfl (by decide) ?_
  refine rn_eq (tb_has (o := 31) (nc := 4) hK (by decide) hT) ?_
  refine rn_ite (fun q5 => kd_says h (if_pos (ite01.mp q5))) (fun q5 => ?_)
  have q6 : ¬ (x < 0 ∨ nI (nn R 4) ≤ x) := fun q => q5 (ite01.mpr q)
  rw [if_neg q6]
  obtain ⟨i, hi, rfl, ei⟩ := st_of (by omega) q6
  rw [ec, ei]
  refine r_gP hK 0 11 1 3 rfl (by decide) ?_
  refine r_gP hK 3 1 4 31 rfl (by decide) ?_
  refine rn_eq (tb_get (o := 31) (nc := 4) (c := c) hK (by decide) hT rfl hi rfl hc) ?_
  exact kd_says h rfl
theorem ro_refuses2 {v : Int32} {o : Int32 × Option (Nat → Int32)} (hK : KS sh z) (h : RI d z R K u) (ho : o = (v, none)) : Rn ((f_X12_refuses N sh (z + 242) v d).bind fun r => some (r.1, r.2)) (RO z R K u o d) := by
  subst ho
  refine rn_bind (m_refuses hK) (fun r hr => rn_some ?_)
  exact ⟨hr.1, hr.2.mfr, ri_rg h hr.2⟩
theorem ro_says2 {v : Int32} {o : Int32 × Option (Nat → Int32)} (hK : KS sh z) (h : RI d z R K u) (ho : o = (v, none)) : Rn ((f_X12_says N sh (z + 242) v d).bind fun r => some (r.1, r.2)) (RO z R K u o d) := by
  subst ho
  refine rn_eq (m_says hK) (rn_some ?_)
  exact ⟨rfl, MFR.wI (by decide) (by decide), ri_rg h (RG.w242 (Or.inl rfl))⟩
theorem m_dat2 {i c : Nat} (hK : KS sh z) (h : RI d z R K u) (hR : WF R) (hi : i < nn R 4) (hc : c < 4) : f_X12_driveAt N sh (z + 242) (nI i) (nI c) d = some (vD R c i) := by
  have n4 := hR.1.2.2.2.2
  have n1 := hR.1.2.1.2
  obtain ⟨s, g, hs, e0, e1, -⟩ := hR.2.2.2.2.2 i hi
  have e0n : nn R (9642 + 3 * i) = s := by
    unfold nn
    rw [e0, nI_clamp (by omega)]
  refine rn_val ?_
  unfold f_X12_driveAt f_X12_driveAt_68
  refine rn_t (ks_o hK 242 12 rfl) ?_
  unfold vD
  refine rn_ite (fun c0 => ?_) (fun c0 => ?_)
  · have c0 : c ≠ 0 := fun e => c0 (by rw [e]; rfl)
    rw [if_neg c0]
    refine rn_ite (fun c1 => ?_) (fun c1 => ?_)
    · have c1 : c ≠ 1 := fun e => c1 (by rw [e]; rfl)
      rw [if_neg c1]
      refine rn_ite (fun c2 => ?_) (fun c2 => ?_)
      · have c2 : c ≠ 2 := fun e => c2 (by rw [e]; rfl)
        rw [if_neg c2]
        exact rdd hK h.1 (by omega) 2 (by decide) rfl (rn_some rfl)
      · have c2 : c = 2 := (nI_eq (b := 2) (by omega) (by decide)).mp (Decidable.of_not_not c2)
        rw [if_pos c2, e0n]
        refine rn_bind (P := fun v => v = _) ?_ (fun v hv => rn_some hv)
        unfold f_X12_to f_X12_to_64
        refine rn_t (ks_o hK 242 12 rfl) ?_
        refine rdd0 hK h.1 (by omega) ?_
        rw [e0]
        refine rn_eq (m_st hK) ?_
        refine rdd hK h.1 (by omega) 1 (by decide) rfl ?_
        refine rst hK h.1 7 (by omega) (by decide) rfl ?_
        refine rn_ite (fun g => ?_) (fun g => ?_)
        · rw [if_neg g]
          exact rst hK h.1 7 (by omega) (by decide) rfl (rn_some rfl)
        · rw [if_pos (Decidable.of_not_not g)]
          exact rst hK h.1 8 (by omega) (by decide) rfl (rn_some rfl)
    · have c1 : c = 1 := (nI_eq (b := 1) (by omega) (by decide)).mp (Decidable.of_not_not c1)
      rw [if_pos c1]
      exact rdd hK h.1 (by omega) 1 (by decide) rfl (rn_some rfl)
  · have c0 : c = 0 := (nI_eq (b := 0) (by omega) (by decide)).mp (Decidable.of_not_not c0)
    rw [if_pos c0]
    exact rdd0 hK h.1 (by omega) (rn_some rfl)
theorem m_at2 {x x2 : Int32} (hK : KS sh z) (h : RI d z R K u) (hR : WF R) : Rn (f_X12_at N sh (z + 242) x x2 d) (RO z R K u (sp_at R x x2) d) := by
  have n4 := hR.1.2.2.2.2
  have n1 := hR.1.2.1.2
  unfold f_X12_at f_X12_at_43
  refine rn_t (ks_o hK 242 12 rfl) ?_
  refine rn_eq m_in ?_
  have e4 : (x2 < 0 ∨ 3 < x2) ↔ (x2 < 0 ∨ nI 4 ≤ x2) := lt_9n (n := 4) (by decide) (by decide)
  refine rn_ite (fun q1 => ?_) (fun q1 => ro_refuses2 hK h (if_pos (ite01.mp (Decidable.of_not_not q1))))
  have q4 : ¬ (x2 < 0 ∨ 3 < x2) := fun r => q1 (ite01.mpr r)
  rw [show sp_at R x x2 = _ from if_neg q4]
  obtain ⟨c, hc, rfl, ec⟩ := st_of (x := x2) (n := 4) (by omega) (fun r => q4 (e4.mpr r))
  refine rdg hK h.1 4 rfl (by decide) ?_
  rw [n4.1]
  refine rn_eq m_in ?_
  have e9 : (x < 0 ∨ nI (nn R 4) - 1 < x) ↔ (x < 0 ∨ nI (nn R 4) ≤ x) := by rw [lt_pred (by omega)]
  refine rn_ite (fun q2 => ro_says2 hK h (if_pos (e9.mp (ite01.mp q2)))) (fun q2 => ?_)
  have q2 : ¬ (x < 0 ∨ nI (nn R 4) ≤ x) := fun r => q2 (ite01.mpr (e9.mpr r))
  rw [if_neg q2]
  obtain ⟨i, hi, rfl, ei⟩ := st_of (by omega) q2
  rw [ec, ei]
  refine rn_eq (m_dat2 hK h hR hi hc) ?_
  exact ro_says2 hK h rfl
theorem k_part2 {x x2 : Int32} (h : CI s z ow R K u y cc) (hR : WF R) : Rn (f_X11_part N s.1 z x x2 s.2) (KD z R K u cc (sp_part R x x2) s) := by
  have hK := h.1
  have n3 := hR.1.2.2.2.1.2
  have hT := h.2.2.1.2.2.2.1
  unfold f_X11_part f_X11_part_24
  refine rn_t (ks_o hK 0 11 rfl) ?_
  refine r_gP hK 0 11 1 3 rfl (by decide) ?_
  refine r_gP hK 3 1 3 20 rfl (by decide) ?_
  refine rn_eq (tb_has (o := 20) (nc := 9) hK (by decide) hT) ?_
  refine rn_ite (fun q3 => kd_refuses h (if_pos (ite01.mp q3))) (fun q3 => ?_)
  have q6 : ¬ (x < 0 ∨ nI (nn R 3) ≤ x) := fun q => q3 (ite01.mpr q)
  rw [show sp_part R x x2 = _ from if_neg q6]
  obtain ⟨i, hi, rfl, ei⟩ := st_of (by omega) q6
  have e4 : (x2 < 0 ∨ 8 < x2) ↔ (x2 < 0 ∨ nI 9 ≤ x2) := lt_9n (n := 9) (by decide) (by decide)
  refine rn_ite (fun q1 => kd_refuses h (if_pos (Or.inl q1))) (fun q1 => ?_)
  refine rn_ite (fun q2 => ?_) (fun q2 => kd_refuses h (if_pos (e4.mpr (Or.inr (Int32.not_lt.mp q2)))))
  have q3 : ¬ (x2 < 0 ∨ nI 9 ≤ x2) := fun r => r.elim q1 (show ¬ (nI 9 ≤ x2) from Int32.not_le.mpr q2)
  rw [if_neg (fun r => q3 (e4.mp r))]
  obtain ⟨c, hc, rfl, ec⟩ := st_of (x := x2) (n := 9) (by omega) q3
  rw [ec, ei]
  refine r_gP hK 0 11 1 3 rfl (by decide) ?_
  refine r_gP hK 3 1 3 20 rfl (by decide) ?_
  refine rn_eq (tb_get (o := 20) (nc := 9) (c := c) hK (by decide) hT rfl hi rfl hc) ?_
  exact kd_says h rfl
theorem rdp2 {β : Type} {Q : β → Prop} {g : Int32 → Option β} {x : Int32} {p : Nat} (hK : KS sh z) (hA : AG (d.1 (z + 243)) R) (hp : p < 12) (k : Nat) (hk : k < 13) (hx : x = nI k) (kk : Rn (g (R (9426 + 13 * p + k))) Q) : Rn ((gP sh (z + 242) 12 0).bind fun v1 => (aT 0 sh d v1 ((9426 : Int32) + (13 : Int32) * nI p + x)).bind g) Q := by
  subst hx
  exact rdg hK hA (9426 + 13 * p + k) (ix_pl p k) (by omega) kk
theorem m_pat2 {p c : Nat} (hK : KS sh z) (hA : AG (d.1 (z + 243)) R) (hp12 : p < 12) (hc : c < 9) : f_X12_partAt N sh (z + 242) (nI p) (nI c) d = some (vP R c p) := by
  refine rn_val ?_
  unfold f_X12_partAt f_X12_partAt_135
  refine rn_t (ks_o hK 242 12 rfl) ?_
  refine rn_eq (m_pl hK) ?_
  unfold vP
  have cv : ∀ {k : Nat}, k < 9 → (nI c = nI k ↔ c = k) := fun hk => nI_eq (by omega) (by omega)
  refine rn_ite (fun e => ?_) (fun e => ?_)
  · rw [if_pos ((cv (k := 0) (by decide)).mp e)]
    exact rdp2 hK hA hp12 6 (by decide) rfl (rn_some rfl)
  rw [if_neg (fun r => e ((cv (k := 0) (by decide)).mpr r))]
  refine rn_ite (fun e => ?_) (fun e => ?_)
  · rw [if_pos ((cv (k := 1) (by decide)).mp e)]
    exact rdp2 hK hA hp12 7 (by decide) rfl (rn_some rfl)
  rw [if_neg (fun r => e ((cv (k := 1) (by decide)).mpr r))]
  refine rn_ite (fun e => ?_) (fun e => ?_)
  · rw [if_pos ((cv (k := 2) (by decide)).mp e)]
    exact rdp2 hK hA hp12 8 (by decide) rfl (rn_some rfl)
  rw [if_neg (fun r => e ((cv (k := 2) (by decide)).mpr r))]
  refine rn_ite (fun e => ?_) (fun e => ?_)
  · rw [if_pos ((cv (k := 3) (by decide)).mp e)]
    exact rdp2 hK hA hp12 9 (by decide) rfl (rn_some rfl)
  rw [if_neg (fun r => e ((cv (k := 3) (by decide)).mpr r))]
  refine rn_ite (fun e => ?_) (fun e => ?_)
  · rw [if_pos ((cv (k := 4) (by decide)).mp e)]
    exact rdp2 hK hA hp12 10 (by decide) rfl (rn_some rfl)
  rw [if_neg (fun r => e ((cv (k := 4) (by decide)).mpr r))]
  refine rn_ite (fun e => ?_) (fun e => ?_)
  · rw [if_pos ((cv (k := 5) (by decide)).mp e)]
    exact rdp2 hK hA hp12 1 (by decide) rfl (rn_some rfl)
  rw [if_neg (fun r => e ((cv (k := 5) (by decide)).mpr r))]
  refine rn_ite (fun e => ?_) (fun e => ?_)
  · rw [if_pos ((cv (k := 6) (by decide)).mp e)]
    refine rdp2 hK hA hp12 2 (by decide) rfl ?_
    refine rn_ite (fun g => ?_) (fun g => ?_)
    · rw [if_neg g]
      exact rdp2 hK hA hp12 0 (by decide) rfl (rn_some rfl)
    · rw [if_pos (Decidable.of_not_not g)]
      exact rn_some rfl
  rw [if_neg (fun r => e ((cv (k := 6) (by decide)).mpr r))]
  refine rn_ite (fun e => ?_) (fun e => ?_)
  · rw [if_pos ((cv (k := 7) (by decide)).mp e)]
    exact rdp2 hK hA hp12 11 (by decide) rfl (rn_some rfl)
  rw [if_neg (fun r => e ((cv (k := 7) (by decide)).mpr r))]
  exact rdp2 hK hA hp12 12 (by decide) rfl (rn_some rfl)
theorem m_part2 {x x2 : Int32} (hK : KS sh z) (h : RI d z R K u) (hR : WF R) : Rn (f_X12_part N sh (z + 242) x x2 d) (RO z R K u (sp_part R x x2) d) := by
  have n3 := hR.1.2.2.2.1
  unfold f_X12_part f_X12_part_18 f_X12_part_37
  refine rn_t (ks_o hK 242 12 rfl) ?_
  refine rn_eq (show f_X12_isPlough N sh (z + 242) x d = some (if x < 0 ∨ nI (nn R 3) ≤ x then 0 else 1) from ?_) ?_
  · have a3 := h.1 3 (by decide)
    have a4 : nn (d.1 (z + 243)) 3 = nn R 3 := by unfold nn; rw [a3]
    rw [← a4]
    exact m_isPlough hK rfl (by rw [a4, a3]; exact n3.1) (by rw [a4]; omega)
  refine rn_ite (fun h1 => ro_refuses2 hK h (if_pos (ite01.mp h1))) (fun h1 => ?_)
  have q6 : ¬ (x < 0 ∨ nI (nn R 3) ≤ x) := fun q => h1 (ite01.mpr q)
  rw [show sp_part R x x2 = _ from if_neg q6]
  obtain ⟨p, hp, rfl, ep⟩ := st_of (by omega) q6
  refine rn_eq m_in ?_
  have e4 : (x2 < 0 ∨ 8 < x2) ↔ (x2 < 0 ∨ nI 9 ≤ x2) := lt_9n (n := 9) (by decide) (by decide)
  refine rn_ite (fun q1 => ?_) (fun q1 => ro_refuses2 hK h (if_pos (ite01.mp (Decidable.of_not_not q1))))
  have q4 : ¬ (x2 < 0 ∨ 8 < x2) := fun r => q1 (ite01.mpr r)
  rw [if_neg q4]
  obtain ⟨c, hc, rfl, ec⟩ := st_of (x := x2) (n := 9) (by omega) (fun r => q4 (e4.mpr r))
  rw [ec, ep]
  have hp12 : p < 12 := by omega
  refine rn_eq (m_pat2 hK h.1 hp12 hc) ?_
  refine rn_eq (m_says hK) (rn_some ?_)
  exact ⟨rfl, MFR.wI (by decide) (by decide), ri_rg h (RG.w242 (Or.inl rfl))⟩
end ANS
/-! 9zt2.ans2.lean.txt -/
/-! asks odd: what they answer -/
def spdR (R : Nat → Int32) (p : Nat) : Nat := if kdP R p = 4 then min (ksp (kd1 R p)) (ksp (kd2 R p)) else ksp (kdP R p)
def askO (R : Nat → Int32) (p t : Nat) (w : Int32) : Int32 × Option (Nat → Int32) := if w = 0 then (nI (spdR R p), none) else if w = 1 then (nI (rcR R p), none) else if w = 2 then (nI (tkR R p (sln R t)), none) else if psR R p (R (16 + 9 * t)) = 0 then (-9, none) else (psR R p (R (16 + 9 * t)), none)
def sp_asks (R : Nat → Int32) (x t w : Int32) : Int32 × Option (Nat → Int32) := if x < 0 ∨ nI (nn R 3) ≤ x then (-2, none) else if t < 0 ∨ nI (nn R 1) ≤ t then (-2, none) else if w < 0 ∨ 3 < w then (-2, none) else if R (9426 + 13 * x.toNatClampNeg + 2) = 1 then (-4, none) else askO R x.toNatClampNeg t.toNatClampNeg w
def sp_odd (R : Nat → Int32) (x : Int32) : Int32 × Option (Nat → Int32) := if x < 0 ∨ nI (oddl R).length ≤ x then (-1, none) else (nI ((oddl R).getD x.toNatClampNeg 0), none)
section ANS2
variable {s : AS} {sh : Sh} {d d0 d' d1 : Dt} {z : Nat} {ow : Nat → Nat} {R K : Nat → Int32} {u : Bool} {y : YL} {N c cc : Nat} {v : Int32} {o : Int32 × Option (Nat → Int32)}
theorem kd_of {r : Int32 × Dt} (ho : o = (v, none)) (hv : r.1 = v) (h : KR z R K u c s r) : KD z R K u c o s r := by
  rw [ho, ← hv]
  exact h
theorem ro_says4 (hK : KS sh z) (h : RI d1 z R K u) (hm : MFR z d d1) (ho : o = (v, none)) : Rn ((f_X12_says N sh (z + 242) v d1).bind fun r => some (r.1, r.2)) (RO z R K u o d) := by
  subst ho
  refine rn_eq (m_says hK) (rn_some ?_)
  exact ⟨rfl, hm.tr (MFR.wI (by decide) (by decide)), ri_rg h (RG.w242 (Or.inl rfl))⟩
theorem ro_refuses4 (hK : KS sh z) (h : RI d1 z R K u) (hm : MFR z d d1) (ho : o = (v, none)) : Rn ((f_X12_refuses N sh (z + 242) v d1).bind fun r => some (r.1, r.2)) (RO z R K u o d) := by
  subst ho
  refine rn_bind (m_refuses hK) (fun r hr => rn_some ?_)
  exact ⟨hr.1, hm.tr hr.2.mfr, ri_rg h hr.2⟩
theorem askO_n {p t : Nat} {w : Int32} : (askO R p t w).2 = none := by
  unfold askO
  split
  · rfl
  · split
    · rfl
    · split
      · rfl
      · split
        · rfl
        · rfl
theorem wk_asks {x t w : Int32} : WKo (sp_asks R x t w) := fun R' e => by
  unfold sp_asks at e
  split at e
  · cases e
  · split at e
    · cases e
    · split at e
      · cases e
      · split at e
        · cases e
        · rw [askO_n] at e
          cases e
theorem wk_odd {x : Int32} : WKo (sp_odd R x) := fun R' e => by
  unfold sp_odd at e
  split at e
  · cases e
  · cases e
theorem m_asks2 {x t w : Int32} (hK : KS sh z) (h : RI d z R K u) (hR : WF R) : Rn (f_X12_asks N sh (z + 242) x t w d) (RO z R K u (sp_asks R x t w) d) := by
  have hN := hR.1
  have n3 := hN.2.2.2.1.2
  have n1 := hN.2.1.2
  have hW := wpk_of hR
  unfold f_X12_asks f_X12_asks_25 f_X12_asks_166
  refine rn_t (ks_o hK 242 12 rfl) ?_
  refine rn_eq (ri_isPlough hK h hN) ?_
  refine rn_ite (fun h1 => ro_refuses4 hK h MFR.rf (if_pos (ite01.mp h1))) (fun h1 => ?_)
  have h1 : ¬ (x < 0 ∨ nI (nn R 3) ≤ x) := fun q => h1 (ite01.mpr q)
  rw [show sp_asks R x t w = _ from if_neg h1]
  obtain ⟨p, hp, rfl, ep⟩ := st_of (by omega) h1
  refine rn_eq (ri_isStreet hK h hN) ?_
  refine rn_ite (fun h2 => ro_refuses4 hK h MFR.rf (if_pos (ite01.mp h2))) (fun h2 => ?_)
  have h2 : ¬ (t < 0 ∨ nI (nn R 1) ≤ t) := fun q => h2 (ite01.mpr q)
  rw [if_neg h2]
  obtain ⟨i, hi, rfl, ei⟩ := st_of (by omega) h2
  rw [ep, ei]
  obtain ⟨-, ⟨l1, l2, l3⟩, -⟩ := hR.2.2.1 i hi
  refine rn_eq m_in ?_
  refine rn_ite (fun h3 => ?_) (fun h3 => ro_refuses4 hK h MFR.rf (if_pos (ite01.mp (Decidable.of_not_not h3))))
  have h3 : ¬ (w < 0 ∨ 3 < w) := fun q => h3 (ite01.mpr q)
  rw [if_neg h3]
  refine rdpl hK h.1 2 (by omega) (by decide) rfl ?_
  refine rn_ite (fun h4 => ?_) (fun h4 => ro_refuses4 hK h MFR.rf (if_pos (Decidable.of_not_not h4)))
  rw [if_neg h4]
  unfold askO
  refine rn_ite (fun g => ?_) (fun g => ?_)
  · rw [if_pos g]
    refine rn_bind (P := fun v => v = nI (spdR R p)) ?_ (fun v hv => ro_says4 hK h MFR.rf (by rw [hv]))
    have wk := hW p hp
    unfold f_X12_speed f_X12_speed_39
    refine rn_t (ks_o hK 242 12 rfl) ?_
    refine rn_eq (m_kindOf hK h.1 (by omega)) ?_
    rw [wk.2.2]
    by_cases h4 : kdP R p = 4
    · obtain ⟨w1, w2, w3, w4, w5, w6⟩ := wk.2.1 h4
      refine rn_f (fun q => q (by rw [h4]; rfl)) ?_
      refine rn_eq (m_first hK hN hW h.1 hp h4).1 ?_
      refine rn_eq (m_speedOf w3) ?_
      refine rn_eq (m_first hK hN hW h.1 hp h4).2 ?_
      refine rn_eq (m_speedOf w4) ?_
      refine rn_eq m_lesser (rn_some ?_)
      have b1 := ksp_b (k := kd1 R p)
      have b2 := ksp_b (k := kd2 R p)
      rw [show spdR R p = min (ksp (kd1 R p)) (ksp (kd2 R p)) from if_pos h4]
      by_cases g : ksp (kd2 R p) ≤ ksp (kd1 R p)
      · rw [if_pos ((nI_leI (by omega) (by omega)).mpr g), show min (ksp (kd1 R p)) (ksp (kd2 R p)) = ksp (kd2 R p) by omega]
      · rw [if_neg (fun q => g ((nI_leI (by omega) (by omega)).mp q)), show min (ksp (kd1 R p)) (ksp (kd2 R p)) = ksp (kd1 R p) by omega]
    · refine rn_t (fun e => h4 (nI_inj (b := 4) e (by omega) (by decide))) ?_
      refine rn_eq (m_kindOf hK h.1 (by omega)) ?_
      rw [wk.2.2]
      refine rn_eq (m_speedOf (by omega)) (rn_some ?_)
      rw [show spdR R p = ksp (kdP R p) from if_neg h4]
  rw [if_neg g]
  refine rn_ite (fun g => ?_) (fun g => ?_)
  · rw [if_pos g]
    exact rn_eq (m_reach hK hN hW h.1 hp) (ro_says4 hK h MFR.rf rfl)
  rw [if_neg g]
  refine rn_ite (fun g => ?_) (fun g => ?_)
  · rw [if_pos g]
    refine rds hK h.1 6 (by omega) (by decide) rfl ?_
    rw [l1]
    refine rn_bind (m_takes hK hN hW h.1 hp l3 l2) (fun r hr => ?_)
    exact ro_says4 hK (ri_rg h hr.2) hr.2.mfr (by rw [hr.1])
  · rw [if_neg g]
    refine rds hK h.1 0 (by omega) (by decide) rfl ?_
    refine rn_bind (m_passes hK hN hW h.1 hp) (fun r hr => ?_)
    have e0 : psR R p (R (16 + 9 * i + 0)) = psR R p (R (16 + 9 * i)) := rfl
    rw [e0] at hr
    refine rn_ite (fun g => ?_) (fun g => ?_)
    · rw [if_neg (fun q => g (hr.1.trans q))]
      exact ro_says4 hK (ri_rg h hr.2) hr.2.mfr (by rw [hr.1])
    · rw [if_pos (hr.1.symm.trans (Decidable.of_not_not g))]
      exact ro_refuses4 hK (ri_rg h hr.2) hr.2.mfr rfl
theorem k_asks2 {x t w : Int32} (h : CI s z ow R K u y c) (hR : WF R) : Rn (f_X11_asks N s.1 z x t w s.2) (KD z R K u c (sp_asks R x t w) s) := by
  have hK := h.1
  have hN := hR.1
  have n3 := hN.2.2.2.1.2
  have n1 := hN.2.1.2
  have hW := wpk_of hR
  have hB : BK s.1 s.2 z ow 3 R y.1 := h.2.2.1
  have fin : ∀ (v : Int32) d1 o, LG z s.2 d1 → o = (v, none) → Rn ((f_X11_answer N s.1 z v d1).bind fun r => some (r.1, r.2)) (KD z R K u c o s) ∧ Rn ((f_X11_refuse N s.1 z v d1).bind fun r => some (r.1, r.2)) (KD z R K u c o s) := fun v d1 o hd ho => by
    have q := ci_lg h hd
    exact ⟨rn_bind (k_answer hK) (fun r hr => rn_some (kd_of ho hr.1 (kr_lg q.1 q.2 hr))), rn_bind (k_refuse hK) (fun r hr => rn_some (kd_of ho hr.1 (kr_lg q.1 q.2 hr)))⟩
  unfold f_X11_asks f_X11_asks_37 f_X11_asks_178
  refine rn_t (ks_o hK 0 11 rfl) ?_
  refine r_now hK 3 20 (by decide) ?_
  refine rn_eq (tb_has (o := 20) (nc := 9) hK (by decide) hB.2.2.2.1) ?_
  refine rn_ite (fun h1 => kd_refuses h (if_pos (ite01.mp h1))) (fun h1 => ?_)
  have h1 : ¬ (x < 0 ∨ nI (nn R 3) ≤ x) := fun q => h1 (ite01.mpr q)
  rw [show sp_asks R x t w = _ from if_neg h1]
  obtain ⟨p, hp, rfl, ep⟩ := st_of (by omega) h1
  refine r_now hK 1 4 (by decide) ?_
  refine rn_eq (tb_has (o := 4) (nc := 9) hK (by decide) hB.2.1) ?_
  refine rn_ite (fun h2 => kd_refuses h (if_pos (ite01.mp h2))) (fun h2 => ?_)
  have h2 : ¬ (t < 0 ∨ nI (nn R 1) ≤ t) := fun q => h2 (ite01.mpr q)
  rw [if_neg h2]
  obtain ⟨i, hi, rfl, ei⟩ := st_of (by omega) h2
  rw [ep, ei]
  obtain ⟨-, ⟨l1, l2, l3⟩, -⟩ := hR.2.2.1 i hi
  refine rn_ite (fun h3 => kd_refuses h (if_pos (Or.inl h3))) (fun h3 => ?_)
  refine rn_ite (fun h4 => ?_) (fun h4 => kd_refuses h (if_pos (Or.inr (Int32.not_le.mp h4))))
  rw [if_neg (show ¬ (w < 0 ∨ 3 < w) from fun q => q.elim h3 (fun q => absurd h4 (Int32.not_le.mpr q)))]
  refine r_gP hK 0 11 1 3 rfl (by decide) ?_
  refine rn_eq (k_isOut (Or.inl rfl) hR hK hB.2.2.2.1 hp) ?_
  by_cases hout : R (9426 + 13 * p + 2) = 1
  · rw [if_pos hout, if_pos hout]
    exact rn_f (by decide) (kd_refuses h rfl)
  rw [if_neg hout, if_neg hout]
  refine rn_t rfl ?_
  obtain ⟨a, a1, a2, a3, a4⟩ := k_body hK h.2.2.2.2.2.1 hp hN
  have a4 : BD s.1 s.2 z ow R p a := a4
  have hi6 : isO s.1 a 6 := by
    rcases a4 with ⟨q1, q2⟩ | ⟨q1, q2⟩
    · exact bo_isO q2 q1
    · exact ⟨q2.1, q2.2.1, by rw [q2.2.2.1]; simp⟩
  have ev1 : s.2.1 a 1 = nI (spdR R p) ∧ s.2.1 a 2 = nI (rcR R p) := by
    rcases a4 with ⟨q1, q2⟩ | ⟨q1, q2⟩
    · have n4 : ¬ kdP R p = 4 := fun e => by
        have e : nn R (9426 + 13 * p) = 4 := e
        omega
      refine ⟨?_, ?_⟩
      · rw [show spdR R p = ksp (kdP R p) from if_neg n4]
        exact q2.2.2.2.2.1
      · rw [show rcR R p = krc (kdP R p) from if_neg n4]
        exact q2.2.2.2.2.2.1
    · refine ⟨?_, ?_⟩
      · rw [show spdR R p = min (ksp (kd1 R p)) (ksp (kd2 R p)) from if_pos q1]
        exact q2.2.2.2.2.1
      · rw [show rcR R p = krc (kd1 R p) + krc (kd2 R p) from if_pos q1]
        exact q2.2.2.2.2.2.1
  refine r_gP hK 0 11 6 235 rfl (by decide) ?_
  refine rn_eq a1 ?_
  unfold askO
  refine rn_ite (fun g => ?_) (fun g => ?_)
  · rw [if_pos g]
    exact rn_eq (v := s.2.1 a 1) (by unfold gI; rw [if_pos hi6]) (kd_says h (by rw [ev1.1]))
  rw [if_neg g]
  refine rn_ite (fun g => ?_) (fun g => ?_)
  · rw [if_pos g]
    exact rn_eq (v := s.2.1 a 2) (by unfold gI; rw [if_pos hi6]) (kd_says h (by rw [ev1.2]))
  rw [if_neg g]
  refine rn_ite (fun g => ?_) (fun g => ?_)
  · rw [if_pos g]
    refine r_now hK 1 4 (by decide) ?_
    refine rn_eq (tb_get (o := 4) (nc := 9) (c := 6) hK (by decide) hB.2.1 rfl hi rfl (by decide)) ?_
    have ev : vS R 6 i = nI (sln R i) := l1
    rw [ev]
    refine rn_bind (k_takes hK hW hp a4 l3 l2) (fun r hr => ?_)
    exact (fin _ _ _ hr.2 (by rw [hr.1])).1
  · rw [if_neg g]
    refine r_now hK 1 4 (by decide) ?_
    refine rn_eq (tb_get (o := 4) (nc := 9) (c := 0) hK (by decide) hB.2.1 rfl hi rfl (by decide)) ?_
    refine rn_bind (k_passes hK hW hp a4) (fun r hr => ?_)
    have e0 : psR R p (vS R 0 i) = psR R p (R (16 + 9 * i)) := rfl
    rw [e0] at hr
    refine rn_ite (fun g => ?_) (fun g => ?_)
    · rw [if_neg (fun q => g (hr.1.trans q))]
      exact (fin _ _ _ hr.2 (by rw [hr.1])).1
    · rw [if_pos (hr.1.symm.trans (Decidable.of_not_not g))]
      exact (fin _ _ _ hr.2 rfl).2
theorem m_odd2 {x : Int32} (hNf : 15642 < N) (hK : KS sh z) (h : RI d z R K u) (hR : WF R) : Rn (f_X12_odd N sh (z + 242) x d) (RO z R K u (sp_odd R x) d) := by
  have n0 := hR.1.1.2
  unfold f_X12_odd
  refine rn_t (ks_o hK 242 12 rfl) ?_
  refine rn_bind (m_beginTimes (by omega) hK hR.1 hR.2.2.1 h.1) (fun d1 hd1 => ?_)
  have hA1 : AG (d1.1 (z + 243)) R := by rw [hd1.1.2 (z + 243) (by omega)]; exact h.1
  refine rn_bind (m_findOdd (by omega) hK hR.1 hR.2.2.1 hA1 hd1.2 (fun s hs => by have := T0_le hR.2.2.1 hs; omega)) (fun d2 hd2 => ?_)
  obtain ⟨o1, o2, o3⟩ := hd2
  have hlen := oddP_len (R := R) (T := T0 R) (nn R 0)
  have hm : MFR z d d2 := ⟨by rw [o1.1, hd1.1.1], by rw [o1.1, hd1.1.1], fun a q => ⟨by rw [o1.2.1 a (by omega) (by omega)]; exact hd1.1.2 a (by omega), by rw [o1.1, hd1.1.1]⟩⟩
  have hri : RI d2 z R K u := by
    obtain ⟨h1, h2, h3, ⟨g, h4, h5⟩, h6⟩ := h
    have r : ∀ i, i ≠ 242 → i ≠ 251 → i ≠ 252 → d2.1 (z + i) = d.1 (z + i) := fun i q1 q2 q3 => by
      rw [o1.2.1 (z + i) (by omega) (by omega)]
      exact hd1.1.2 (z + i) (by omega)
    have r2 : ∀ k, k ≠ 16 → d2.1 (z + 242) k = d.1 (z + 242) k := fun k q => by
      rw [o1.2.2 k q, hd1.1.2 (z + 242) (by omega)]
    refine ⟨by rw [r 243 (by decide) (by decide) (by decide)]; exact h1, by rw [r 244 (by decide) (by decide) (by decide)]; exact h2, by rw [r2 2 (by decide)]; exact h3, ⟨g, h4, by rw [r2 8 (by decide)]; exact h5⟩, ?_⟩
    rw [r2 10 (by decide), r 247 (by decide) (by decide) (by decide)]
    exact h6
  refine r_gI hK (i := 242) (c := 12) rfl ?_
  rw [o2]
  refine rn_eq m_in ?_
  unfold sp_odd
  rw [oddl_eq hR.2.2.1 hR.1]
  have e9 : (x < 0 ∨ nI (oddP R (T0 R) (nn R 0)).length - 1 < x) ↔ (x < 0 ∨ nI (oddP R (T0 R) (nn R 0)).length ≤ x) := by rw [lt_pred (by omega)]
  unfold f_X12_odd_33
  refine rn_ite (fun q => ro_says4 hK hri hm (if_pos (e9.mp (ite01.mp q)))) (fun q => ?_)
  have q : ¬ (x < 0 ∨ nI (oddP R (T0 R) (nn R 0)).length ≤ x) := fun r => q (ite01.mpr (e9.mpr r))
  rw [if_neg q]
  obtain ⟨k, hk, rfl, ek⟩ := st_of (by omega) q
  refine r_gP hK 242 12 15 252 rfl (by decide) ?_
  refine rn_eq (q_aT (ks_a hK 252 0 60 rfl) k rfl (by omega) (by decide)) ?_
  refine ro_says4 hK hri hm ?_
  rw [ek, o3 k hk]
theorem k_odd2 {x : Int32} (hN2 : 300 ≤ N) (h : CI s z ow R K u y cc) (hR : WF R) : Rn (f_X11_odd N s.1 z x s.2) (KD z R K u cc (sp_odd R x) s) := by
  have hK := h.1
  have n0 := hR.1.1.2
  have hlen := oddP_len (R := R) (T := T0 R) (nn R 0)
  rw [← oddl_eq hR.2.2.1 hR.1] at hlen
  unfold f_X11_odd
  refine rn_t (ks_o hK 0 11 rfl) ?_
  refine r_gP hK 0 11 4 201 rfl (by decide) ?_
  refine rn_bind (k_list (by omega) hK hR.1 hR.2.2.1 h.2.2.1.2.1 h.2.2.2.2.2.2.2.2.1) (fun r hr => ?_)
  obtain ⟨l1, l2, l3, l4, l5⟩ := hr
  have ht : PRt r.2 z R := prt_lf h l1
  have q := ci_pr h (l1.fd h.2.1) (by rw [l1.1]) (Or.inr ⟨l3, l4, l5⟩) ht (l1.2.2 7 (by decide) (by decide))
  refine r_gP hK 0 11 4 201 rfl (by decide) ?_
  refine rn_bind (P := fun v => sp_odd R x = (v, none)) ?_ (fun v hv => ?_)
  · unfold f_X4_oddAt f_X4_oddAt_21 f_X4_oddAt_22
    refine rn_t (ks_o hK 201 4 rfl) ?_
    refine rn_ite (fun h1 => rn_some (if_pos (Or.inl h1))) (fun h1 => ?_)
    refine r_gI hK (i := 201) (c := 4) rfl ?_
    rw [l4]
    refine rn_ite (fun h2 => rn_some (if_pos (Or.inr h2))) (fun h2 => ?_)
    have h3 : ¬ (x < 0 ∨ nI (oddl R).length ≤ x) := fun r => r.elim h1 h2
    obtain ⟨k, hk, rfl, ek⟩ := st_of (by omega) h3
    refine r_gP hK 201 4 2 202 rfl (by decide) ?_
    refine rn_eq (q_aT (ks_a hK 202 0 60 rfl) k rfl (by omega) (by decide)) (rn_some ?_)
    rw [show sp_odd R (nI k) = _ from if_neg h3, ek, l5 k hk]
  · refine rn_bind (k_answer hK) (fun r2 hr2 => rn_some ?_)
    exact kd_of hv hr2.1 (kr_lg q.1 q.2 hr2)
end ANS2
/-! 9zt3.dig2.lean.txt -/
/-! read digest: what they answer -/
def sp_read (R : Nat → Int32) (x x2 : Int32) : Int32 × Option (Nat → Int32) := if x < 0 ∨ nI (nn R 2) ≤ x then (-2, none) else if brs R x.toNatClampNeg x2 = 0 then (tnt R x.toNatClampNeg x2.toNatClampNeg, none) else (brs R x.toNatClampNeg x2, none)
def dgRow (V : Nat → Nat → Int32) (i : Nat) : Nat → Nat → Int32 → Int32
  | 0, _, v => v
  | m + 1, c, v => dgRow V i m (c + 1) ((31 : Int32) * v + V c i)
def dgTab (V : Nat → Nat → Int32) (nc : Nat) : Nat → Nat → Int32 → Int32
  | 0, _, v => v
  | m + 1, i, v => dgTab V nc m (i + 1) (dgRow V i nc 0 v)
def dgCel (R : Nat → Int32) (g : Nat) : Nat → Nat → Int32 → Int32
  | 0, _, v => v
  | m + 1, h, v => dgCel R g m (h + 1) ((31 : Int32) * v + tnt R g h)
def dgGau (R : Nat → Int32) : Nat → Nat → Int32 → Int32
  | 0, _, v => v
  | m + 1, g, v => dgGau R m (g + 1) (dgCel R g (nn R (1366 + 3 * g + 2)) 0 ((31 : Int32) * ((31 : Int32) * v + R (1366 + 3 * g)) + R (1366 + 3 * g + 2)))
def sp_digest (R : Nat → Int32) : Int32 × Option (Nat → Int32) := (dgTab (vD R) 4 (nn R 4) 0 (dgTab (vP R) 9 (nn R 3) 0 (dgGau R (nn R 2) 0 (dgTab (vS R) 9 (nn R 1) 0 ((217 : Int32) + R 0)))), none)
section DIG2
variable {s : AS} {sh : Sh} {d d0 d' : Dt} {z : Nat} {ow : Nat → Nat} {R K : Nat → Int32} {u : Bool} {y : YL} {N c cc i p t m h g : Nat} {q : BL} {o : Int32 × Option (Nat → Int32)}
theorem wk_digest : WKo (sp_digest R) := fun R' e => by cases e
theorem wk_read {x x2 : Int32} : WKo (sp_read R x x2) := fun R' e => by
  unfold sp_read at e
  split at e
  · cases e
  · split at e
    · cases e
    · cases e
theorem m_read2 {x x2 : Int32} (hK : KS sh z) (hI : RI d z R K u) (hR : WF R) : Rn (f_X12_read N sh (z + 242) x x2 d) (RO z R K u (sp_read R x x2) d) := by
  have n2 := hR.1.2.2.1.2
  unfold f_X12_read f_X12_read_44
  refine rn_t (ks_o hK 242 12 rfl) ?_
  refine rn_eq (ri_isGauge hK hI hR.1) ?_
  refine rn_ite (fun h1 => ?_) (fun h1 => ro_refuses4 hK hI MFR.rf (if_pos (ite01.mp (Decidable.of_not_not h1))))
  have h1 : ¬ (x < 0 ∨ nI (nn R 2) ≤ x) := fun q => h1 (ite01.mpr q)
  rw [show sp_read R x x2 = _ from if_neg h1]
  obtain ⟨g, hg, rfl, eg⟩ := st_of (by omega) h1
  rw [eg]
  refine rn_eq (m_bars hK hI.1 hR.1 hR.2.1 hg) ?_
  refine rn_ite (fun h2 => ?_) (fun h2 => ro_refuses4 hK hI MFR.rf (if_neg h2))
  rw [if_pos h2]
  obtain ⟨hh, b1, rfl, b3⟩ := brs_0 hR.1 hR.2.1 hg h2
  refine rn_eq (m_tells hK hI.1 (by omega) b3) ?_
  exact ro_says4 hK hI MFR.rf (by rw [nI_clamp (by omega)])
theorem k_read2 {x x2 : Int32} (hC : CI s z ow R K u y c) (hR : WF R) : Rn (f_X11_read N s.1 z x x2 s.2) (KD z R K u c (sp_read R x x2) s) := by
  have hK := hC.1
  have n2 := hR.1.2.2.1.2
  have hB : BK s.1 s.2 z ow 3 R y.1 := hC.2.2.1
  unfold f_X11_read f_X11_read_56
  refine rn_t (ks_o hK 0 11 rfl) ?_
  refine r_now hK 2 15 (by decide) ?_
  refine rn_eq (tb_has (o := 15) (nc := 3) hK (by decide) hB.2.2.1) ?_
  refine rn_ite (fun h1 => ?_) (fun h1 => kd_refuses hC (if_pos (ite01.mp (Decidable.of_not_not h1))))
  have h1 : ¬ (x < 0 ∨ nI (nn R 2) ≤ x) := fun q => h1 (ite01.mpr q)
  rw [show sp_read R x x2 = _ from if_neg h1]
  obtain ⟨g, hg, rfl, eg⟩ := st_of (by omega) h1
  rw [eg]
  refine r_gP hK 0 11 1 3 rfl (by decide) ?_
  refine rn_eq (k_whyUnread hK hR.2.1 hB hg) ?_
  refine rn_ite (fun h2 => ?_) (fun h2 => kd_refuses hC (if_neg h2))
  rw [if_pos h2]
  obtain ⟨hh, b1, rfl, b3⟩ := brs_0 hR.1 hR.2.1 hg h2
  refine r_gP hK 0 11 1 3 rfl (by decide) ?_
  refine rn_eq (k_tenths hK hR.1 hR.2.1 hR.2.2.2.1 hB hg b1) ?_
  exact kd_says hC (by rw [nI_clamp (by omega)])
/-! the reference's digest, the last loop first -/
theorem dg205b {k : Nat → Int32 → Int32 → Dt → Option (Int32 × Dt)} {Q : Int32 × Dt → Prop} (hK : KS sh z) (h : RI d z R K u) (hR : WF R) (hi : i < nn R 4) : ∀ (m c fu : Nat) (v : Int32), c + m = 4 → m < fu → Rn (k (z + 242) (dgRow (vD R) i m c v) (nI (i + 1)) d) Q → Rn (f_X12_digest_205 N sh k fu (z + 242) v (nI i) (nI c) d) Q
  | 0, c, fu, v, hc, hf, kk => by
    obtain ⟨fu, rfl⟩ : ∃ q, fu = q + 1 := ⟨fu - 1, by omega⟩
    show Rn (g_X12_digest_205 N sh k (f_X12_digest_205 N sh k fu) (z + 242) v (nI i) (nI c) d) _
    unfold g_X12_digest_205 f_X12_digest_228
    rw [nI_1]
    refine rn_t (nI_le (a := 4) (by omega) (by omega)) ?_
    exact kk
  | m + 1, c, fu, v, hc, hf, kk => by
    obtain ⟨fu, rfl⟩ : ∃ q, fu = q + 1 := ⟨fu - 1, by omega⟩
    show Rn (g_X12_digest_205 N sh k (f_X12_digest_205 N sh k fu) (z + 242) v (nI i) (nI c) d) _
    unfold g_X12_digest_205
    refine rn_f (nI_ge (b := 4) (by omega) (by decide)) ?_
    refine rn_eq (m_dat2 hK h hR hi (by omega)) ?_
    rw [nI_1]
    exact dg205b hK h hR hi m (c + 1) fu _ (by omega) (by omega) kk
theorem dg193b (hN2 : 2100 ≤ N) (hK : KS sh z) (h : RI d z R K u) (hR : WF R) : ∀ (m i fu : Nat) (v : Int32), i + m = nn R 4 → m < fu → o = (dgTab (vD R) 4 m i v, none) → Rn (f_X12_digest_193 N sh fu (z + 242) v (nI i) d) (RO z R K u o d)
  | 0, i, fu, v, hc, hf, ho => by
    obtain ⟨fu, rfl⟩ : ∃ q, fu = q + 1 := ⟨fu - 1, by omega⟩
    have n4 := hR.1.2.2.2.2
    show Rn (g_X12_digest_193 N sh (f_X12_digest_193 N sh fu) (z + 242) v (nI i) d) _
    unfold g_X12_digest_193 f_X12_digest_234
    refine rdg hK h.1 4 rfl (by decide) ?_
    rw [n4.1]
    refine rn_t (nI_le (by omega) (by omega)) ?_
    exact ro_says4 hK h MFR.rf ho
  | m + 1, i, fu, v, hc, hf, ho => by
    obtain ⟨fu, rfl⟩ : ∃ q, fu = q + 1 := ⟨fu - 1, by omega⟩
    have n4 := hR.1.2.2.2.2
    show Rn (g_X12_digest_193 N sh (f_X12_digest_193 N sh fu) (z + 242) v (nI i) d) _
    unfold g_X12_digest_193
    refine rdg hK h.1 4 rfl (by decide) ?_
    rw [n4.1]
    refine rn_f (nI_ge (by omega) (by omega)) ?_
    exact dg205b hK h hR (by omega) 4 0 N v rfl (by omega) (dg193b hN2 hK h hR m (i + 1) fu _ (by omega) (by omega) ho)
theorem dg161b {k : Nat → Int32 → Int32 → Dt → Option (Int32 × Dt)} {Q : Int32 × Dt → Prop} (hK : KS sh z) (hA : AG (d.1 (z + 243)) R) (hp : p < 12) : ∀ (m c fu : Nat) (v : Int32), c + m = 9 → m < fu → Rn (k (z + 242) (dgRow (vP R) p m c v) (nI (p + 1)) d) Q → Rn (f_X12_digest_161 N sh k fu (z + 242) v (nI p) (nI c) d) Q
  | 0, c, fu, v, hc, hf, kk => by
    obtain ⟨fu, rfl⟩ : ∃ q, fu = q + 1 := ⟨fu - 1, by omega⟩
    show Rn (g_X12_digest_161 N sh k (f_X12_digest_161 N sh k fu) (z + 242) v (nI p) (nI c) d) _
    unfold g_X12_digest_161 f_X12_digest_185
    rw [nI_1]
    refine rn_t (nI_le (a := 9) (by omega) (by omega)) ?_
    exact kk
  | m + 1, c, fu, v, hc, hf, kk => by
    obtain ⟨fu, rfl⟩ : ∃ q, fu = q + 1 := ⟨fu - 1, by omega⟩
    show Rn (g_X12_digest_161 N sh k (f_X12_digest_161 N sh k fu) (z + 242) v (nI p) (nI c) d) _
    unfold g_X12_digest_161
    refine rn_f (nI_ge (b := 9) (by omega) (by decide)) ?_
    refine rn_eq (m_pat2 hK hA hp (by omega)) ?_
    rw [nI_1]
    exact dg161b hK hA hp m (c + 1) fu _ (by omega) (by omega) kk
theorem dg149b (hN2 : 2100 ≤ N) (hK : KS sh z) (h : RI d z R K u) (hR : WF R) : ∀ (m i fu : Nat) (v : Int32), i + m = nn R 3 → m < fu → o = (dgTab (vD R) 4 (nn R 4) 0 (dgTab (vP R) 9 m i v), none) → Rn (f_X12_digest_149 N sh fu (z + 242) v (nI i) d) (RO z R K u o d)
  | 0, i, fu, v, hc, hf, ho => by
    obtain ⟨fu, rfl⟩ : ∃ q, fu = q + 1 := ⟨fu - 1, by omega⟩
    have n3 := hR.1.2.2.2.1
    have n4 := hR.1.2.2.2.2
    show Rn (g_X12_digest_149 N sh (f_X12_digest_149 N sh fu) (z + 242) v (nI i) d) _
    unfold g_X12_digest_149 f_X12_digest_191
    refine rdg hK h.1 3 rfl (by decide) ?_
    rw [n3.1]
    refine rn_t (nI_le (by omega) (by omega)) ?_
    exact dg193b hN2 hK h hR (nn R 4) 0 N v (by omega) (by omega) ho
  | m + 1, i, fu, v, hc, hf, ho => by
    obtain ⟨fu, rfl⟩ : ∃ q, fu = q + 1 := ⟨fu - 1, by omega⟩
    have n3 := hR.1.2.2.2.1
    show Rn (g_X12_digest_149 N sh (f_X12_digest_149 N sh fu) (z + 242) v (nI i) d) _
    unfold g_X12_digest_149
    refine rdg hK h.1 3 rfl (by decide) ?_
    rw [n3.1]
    refine rn_f (nI_ge (by omega) (by omega)) ?_
    exact dg161b hK h.1 (by omega) 9 0 N v rfl (by omega) (dg149b hN2 hK h hR m (i + 1) fu _ (by omega) (by omega) ho)
theorem dg107b {k : Nat → Int32 → Int32 → Dt → Option (Int32 × Dt)} {Q : Int32 × Dt → Prop} (hK : KS sh z) (h : RI d z R K u) (hR : WF R) (hg : g < nn R 2) : ∀ (m c fu : Nat) (v : Int32), c + m = nn R (1366 + 3 * g + 2) → m < fu → Rn (k (z + 242) (dgCel R g m c v) (nI (g + 1)) d) Q → Rn (f_X12_digest_107 N sh k fu (z + 242) v (nI g) (nI c) d) Q
  | 0, c, fu, v, hc, hf, kk => by
    obtain ⟨fu, rfl⟩ : ∃ q, fu = q + 1 := ⟨fu - 1, by omega⟩
    have n2 := hR.1.2.2.1
    obtain ⟨b1, b2⟩ := hrs_le hR.2.1 hg
    show Rn (g_X12_digest_107 N sh k (f_X12_digest_107 N sh k fu) (z + 242) v (nI g) (nI c) d) _
    unfold g_X12_digest_107 f_X12_digest_141
    rw [nI_1]
    refine rdga hK h.1 2 (by omega) (by decide) rfl ?_
    refine rn_t ((b2 c (by omega)).mpr (by omega)) ?_
    exact kk
  | m + 1, c, fu, v, hc, hf, kk => by
    obtain ⟨fu, rfl⟩ : ∃ q, fu = q + 1 := ⟨fu - 1, by omega⟩
    have n2 := hR.1.2.2.1
    obtain ⟨b1, b2⟩ := hrs_le hR.2.1 hg
    show Rn (g_X12_digest_107 N sh k (f_X12_digest_107 N sh k fu) (z + 242) v (nI g) (nI c) d) _
    unfold g_X12_digest_107
    refine rdga hK h.1 2 (by omega) (by decide) rfl ?_
    refine rn_f (fun q => absurd ((b2 c (by omega)).mp q) (by omega)) ?_
    refine rn_eq (m_tells hK h.1 (by omega) (by omega)) ?_
    rw [nI_1]
    exact dg107b hK h hR hg m (c + 1) fu _ (by omega) (by omega) kk
theorem dg63b (hN2 : 2100 ≤ N) (hK : KS sh z) (h : RI d z R K u) (hR : WF R) : ∀ (m i fu : Nat) (v : Int32), i + m = nn R 2 → m < fu → o = (dgTab (vD R) 4 (nn R 4) 0 (dgTab (vP R) 9 (nn R 3) 0 (dgGau R m i v)), none) → Rn (f_X12_digest_63 N sh fu (z + 242) v (nI i) d) (RO z R K u o d)
  | 0, i, fu, v, hc, hf, ho => by
    obtain ⟨fu, rfl⟩ : ∃ q, fu = q + 1 := ⟨fu - 1, by omega⟩
    have n2 := hR.1.2.2.1
    have n3 := hR.1.2.2.2.1
    show Rn (g_X12_digest_63 N sh (f_X12_digest_63 N sh fu) (z + 242) v (nI i) d) _
    unfold g_X12_digest_63 f_X12_digest_147
    refine rdg hK h.1 2 rfl (by decide) ?_
    rw [n2.1]
    refine rn_t (nI_le (by omega) (by omega)) ?_
    exact dg149b hN2 hK h hR (nn R 3) 0 N v (by omega) (by omega) ho
  | m + 1, i, fu, v, hc, hf, ho => by
    obtain ⟨fu, rfl⟩ : ∃ q, fu = q + 1 := ⟨fu - 1, by omega⟩
    have n2 := hR.1.2.2.1
    have hi : i < nn R 2 := by omega
    show Rn (g_X12_digest_63 N sh (f_X12_digest_63 N sh fu) (z + 242) v (nI i) d) _
    unfold g_X12_digest_63
    refine rdg hK h.1 2 rfl (by decide) ?_
    rw [n2.1]
    refine rn_f (nI_ge (by omega) (by omega)) ?_
    refine rdga0 hK h.1 (by omega) ?_
    refine rdga hK h.1 2 (by omega) (by decide) rfl ?_
    have b := (hrs_le hR.2.1 hi).1
    exact dg107b hK h hR hi (nn R (1366 + 3 * i + 2)) 0 N _ (by omega) (by omega) (dg63b hN2 hK h hR m (i + 1) fu _ (by omega) (by omega) ho)
theorem dg25b {k : Nat → Int32 → Int32 → Dt → Option (Int32 × Dt)} {Q : Int32 × Dt → Prop} (hK : KS sh z) (h : RI d z R K u) (ht : t < 150) : ∀ (m c fu : Nat) (v : Int32), c + m = 9 → m < fu → Rn (k (z + 242) (dgRow (vS R) t m c v) (nI (t + 1)) d) Q → Rn (f_X12_digest_25 N sh k fu (z + 242) v (nI t) (nI c) d) Q
  | 0, c, fu, v, hc, hf, kk => by
    obtain ⟨fu, rfl⟩ : ∃ q, fu = q + 1 := ⟨fu - 1, by omega⟩
    show Rn (g_X12_digest_25 N sh k (f_X12_digest_25 N sh k fu) (z + 242) v (nI t) (nI c) d) _
    unfold g_X12_digest_25 f_X12_digest_55
    rw [nI_1]
    refine rn_t (nI_le (a := 9) (by omega) (by omega)) ?_
    exact kk
  | m + 1, c, fu, v, hc, hf, kk => by
    obtain ⟨fu, rfl⟩ : ∃ q, fu = q + 1 := ⟨fu - 1, by omega⟩
    show Rn (g_X12_digest_25 N sh k (f_X12_digest_25 N sh k fu) (z + 242) v (nI t) (nI c) d) _
    unfold g_X12_digest_25
    refine rn_f (nI_ge (b := 9) (by omega) (by decide)) ?_
    refine rds hK h.1 c ht (by omega) rfl ?_
    rw [nI_1]
    exact dg25b hK h ht m (c + 1) fu _ (by omega) (by omega) kk
theorem dg13b (hN2 : 2100 ≤ N) (hK : KS sh z) (h : RI d z R K u) (hR : WF R) : ∀ (m i fu : Nat) (v : Int32), i + m = nn R 1 → m < fu → o = (dgTab (vD R) 4 (nn R 4) 0 (dgTab (vP R) 9 (nn R 3) 0 (dgGau R (nn R 2) 0 (dgTab (vS R) 9 m i v))), none) → Rn (f_X12_digest_13 N sh fu (z + 242) v (nI i) d) (RO z R K u o d)
  | 0, i, fu, v, hc, hf, ho => by
    obtain ⟨fu, rfl⟩ : ∃ q, fu = q + 1 := ⟨fu - 1, by omega⟩
    have n1 := hR.1.2.1
    have n2 := hR.1.2.2.1
    show Rn (g_X12_digest_13 N sh (f_X12_digest_13 N sh fu) (z + 242) v (nI i) d) _
    unfold g_X12_digest_13 f_X12_digest_61
    refine rdg hK h.1 1 rfl (by decide) ?_
    rw [n1.1]
    refine rn_t (nI_le (by omega) (by omega)) ?_
    exact dg63b hN2 hK h hR (nn R 2) 0 N v (by omega) (by omega) ho
  | m + 1, i, fu, v, hc, hf, ho => by
    obtain ⟨fu, rfl⟩ : ∃ q, fu = q + 1 := ⟨fu - 1, by omega⟩
    have n1 := hR.1.2.1
    show Rn (g_X12_digest_13 N sh (f_X12_digest_13 N sh fu) (z + 242) v (nI i) d) _
    unfold g_X12_digest_13
    refine rdg hK h.1 1 rfl (by decide) ?_
    rw [n1.1]
    refine rn_f (nI_ge (by omega) (by omega)) ?_
    exact dg25b hK h (by omega) 9 0 N v rfl (by omega) (dg13b hN2 hK h hR m (i + 1) fu _ (by omega) (by omega) ho)
theorem m_digest2 (hN2 : 2100 ≤ N) (hK : KS sh z) (h : RI d z R K u) (hR : WF R) : Rn (f_X12_digest N sh (z + 242) d) (RO z R K u (sp_digest R) d) := by
  have n1 := hR.1.2.1
  unfold f_X12_digest
  refine rn_t (ks_o hK 242 12 rfl) ?_
  refine rdg hK h.1 0 rfl (by decide) ?_
  exact dg13b hN2 hK h hR (nn R 1) 0 N _ (by omega) (by omega) rfl
/-! the class -/
theorem do15b {o nc S : Nat} {V : Nat → Nat → Int32} {L : Nat → Nat} {k : Nat → Int32 → Int32 → Option Int32} {Q : Int32 → Prop} (hK : KS sh z) (hk : tck o nc = true) (ht : TB sh d z ow o nc S V L) (hi : i < S) : ∀ (m c fu : Nat) (v : Int32), c + m = nc → m < fu → Rn (k (z + o) (dgRow V i m c v) (nI (i + 1))) Q → Rn (f_X8_digestOf_15 N sh k d fu (z + o) v (nI i) (nI c)) Q
  | 0, c, fu, v, hc, hf, kk => by
    obtain ⟨fu, rfl⟩ : ∃ q, fu = q + 1 := ⟨fu - 1, by omega⟩
    have hn := tck_n hk
    show Rn (g_X8_digestOf_15 N sh k (f_X8_digestOf_15 N sh k d fu) (z + o) v (nI i) (nI c) d) _
    unfold g_X8_digestOf_15 f_X8_digestOf_46
    rw [nI_1]
    refine r_gP hK o 8 0 (o + 1) (tck_1 hk) (tck_3 hk) ?_
    refine rn_eq (q_len (ks_a hK (o + 1) 5 nc (tck_2 hk)) (by decide)) ?_
    refine rn_t (nI_le (by omega) (by omega)) ?_
    exact kk
  | m + 1, c, fu, v, hc, hf, kk => by
    obtain ⟨fu, rfl⟩ : ∃ q, fu = q + 1 := ⟨fu - 1, by omega⟩
    have hn := tck_n hk
    obtain ⟨a, ha, hw, hA, hL, hSL, hLb, hV⟩ := ht.2 c (by omega)
    show Rn (g_X8_digestOf_15 N sh k (f_X8_digestOf_15 N sh k d fu) (z + o) v (nI i) (nI c) d) _
    unfold g_X8_digestOf_15
    refine r_gP hK o 8 0 (o + 1) (tck_1 hk) (tck_3 hk) ?_
    refine rn_eq (q_len (ks_a hK (o + 1) 5 nc (tck_2 hk)) (by decide)) ?_
    refine rn_f (nI_ge (by omega) (by omega)) ?_
    refine r_gP hK o 8 0 (o + 1) (tck_1 hk) (tck_3 hk) ?_
    refine rn_eq (q_aQ (ks_a hK (o + 1) 5 nc (tck_2 hk)) c a rfl (by omega) (by omega) ha) ?_
    refine rn_eq (q_aT ⟨hA, hL⟩ i rfl (by omega) (by omega)) ?_
    rw [nI_1, hV i hi]
    exact do15b hK hk ht hi m (c + 1) fu _ (by omega) (by omega) kk
theorem do4b {o nc S : Nat} {V : Nat → Nat → Int32} {L : Nat → Nat} (hN2 : 2100 ≤ N) (hK : KS sh z) (hk : tck o nc = true) (hS : S ≤ 2000) (ht : TB sh d z ow o nc S V L) : ∀ (m i fu : Nat) (v : Int32), i + m = S → m < fu → Rn (f_X8_digestOf_4 N sh d fu (z + o) v (nI i)) (fun r => r = dgTab V nc m i v)
  | 0, i, fu, v, hc, hf => by
    obtain ⟨fu, rfl⟩ : ∃ q, fu = q + 1 := ⟨fu - 1, by omega⟩
    show Rn (g_X8_digestOf_4 N sh (f_X8_digestOf_4 N sh d fu) (z + o) v (nI i) d) _
    unfold g_X8_digestOf_4 f_X8_digestOf_52
    refine r_gI hK (tck_1 hk) ?_
    rw [ht.1]
    exact rn_t (nI_le (by omega) (by omega)) (rn_some rfl)
  | m + 1, i, fu, v, hc, hf => by
    obtain ⟨fu, rfl⟩ : ∃ q, fu = q + 1 := ⟨fu - 1, by omega⟩
    have hn := tck_n hk
    show Rn (g_X8_digestOf_4 N sh (f_X8_digestOf_4 N sh d fu) (z + o) v (nI i) d) _
    unfold g_X8_digestOf_4
    refine r_gI hK (tck_1 hk) ?_
    rw [ht.1]
    refine rn_f (nI_ge (by omega) (by omega)) ?_
    exact do15b hK hk ht (by omega) nc 0 N v (by omega) (by omega) (do4b hN2 hK hk hS ht m (i + 1) fu _ (by omega) (by omega))
theorem k_digestOf2 {v : Int32} {o nc S : Nat} {V : Nat → Nat → Int32} {L : Nat → Nat} (hN2 : 2100 ≤ N) (hK : KS sh z) (hk : tck o nc = true) (hS : S ≤ 2000) (ht : TB sh d z ow o nc S V L) : f_X8_digestOf N sh (z + o) v d = some (dgTab V nc S 0 v) := by
  refine rn_val ?_
  unfold f_X8_digestOf
  refine rn_t (ks_o hK o 8 (tck_1 hk)) ?_
  exact do4b hN2 hK hk hS ht S 0 N v (by omega) (by omega)
theorem dk79b {k : Nat → Int32 → Int32 → Dt → Option (Int32 × Dt)} {Q : Int32 × Dt → Prop} (hK : KS sh z) (hR : WF R) (hB : BK sh d z ow 3 R q) (hg : g < nn R 2) : ∀ (m c fu : Nat) (v : Int32), c + m = nn R (1366 + 3 * g + 2) → m < fu → Rn (k z (dgCel R g m c v) (nI (g + 1)) d) Q → Rn (f_X11_digest_79 N sh k fu z v (nI g) (R (1366 + 3 * g + 2)) (nI c) d) Q
  | 0, c, fu, v, hc, hf, kk => by
    obtain ⟨fu, rfl⟩ : ∃ q, fu = q + 1 := ⟨fu - 1, by omega⟩
    obtain ⟨b1, b2⟩ := hrs_le hR.2.1 hg
    show Rn (g_X11_digest_79 N sh k (f_X11_digest_79 N sh k fu) z v (nI g) (R (1366 + 3 * g + 2)) (nI c) d) _
    unfold g_X11_digest_79 f_X11_digest_107
    rw [nI_1]
    refine rn_t ((b2 c (by omega)).mpr (by omega)) ?_
    exact kk
  | m + 1, c, fu, v, hc, hf, kk => by
    obtain ⟨fu, rfl⟩ : ∃ q, fu = q + 1 := ⟨fu - 1, by omega⟩
    obtain ⟨b1, b2⟩ := hrs_le hR.2.1 hg
    show Rn (g_X11_digest_79 N sh k (f_X11_digest_79 N sh k fu) z v (nI g) (R (1366 + 3 * g + 2)) (nI c) d) _
    unfold g_X11_digest_79
    refine rn_f (fun q => absurd ((b2 c (by omega)).mp q) (by omega)) ?_
    rw [← z0 (z := z)]
    refine r_gP hK 0 11 1 3 rfl (by decide) ?_
    rw [z0 (z := z)]
    refine rn_eq (k_tenths hK hR.1 hR.2.1 hR.2.2.2.1 hB hg (by omega)) ?_
    rw [nI_1]
    exact dk79b hK hR hB hg m (c + 1) fu _ (by omega) (by omega) kk
theorem dk26b (hN2 : 2100 ≤ N) (h : CI s z ow R K u y cc) (hR : WF R) : ∀ (m i fu : Nat) (v : Int32), i + m = nn R 2 → m < fu → o = (dgTab (vD R) 4 (nn R 4) 0 (dgTab (vP R) 9 (nn R 3) 0 (dgGau R m i v)), none) → Rn (f_X11_digest_26 N s.1 fu z v (nI i) s.2) (KD z R K u cc o s)
  | 0, i, fu, v, hc, hf, ho => by
    obtain ⟨fu, rfl⟩ : ∃ q, fu = q + 1 := ⟨fu - 1, by omega⟩
    have hK := h.1
    have hB : BK s.1 s.2 z ow 3 R y.1 := h.2.2.1
    have n2 := hR.1.2.2.1
    have n3 := hR.1.2.2.2.1
    have n4 := hR.1.2.2.2.2
    show Rn (g_X11_digest_26 N s.1 (f_X11_digest_26 N s.1 fu) z v (nI i) s.2) _
    unfold g_X11_digest_26
    refine r_now hK 2 15 (by decide) ?_
    refine r_gI hK (i := 15) (c := 8) rfl ?_
    rw [hB.2.2.1.1]
    refine rn_t (nI_le (by omega) (by omega)) ?_
    unfold f_X11_digest_113
    refine r_now hK 3 20 (by decide) ?_
    refine rn_eq (k_digestOf2 hN2 hK (by decide) (by omega) hB.2.2.2.1) ?_
    refine r_now hK 4 31 (by decide) ?_
    refine rn_eq (k_digestOf2 hN2 hK (by decide) (by omega) hB.2.2.2.2.1) ?_
    exact kd_says h ho
  | m + 1, i, fu, v, hc, hf, ho => by
    obtain ⟨fu, rfl⟩ : ∃ q, fu = q + 1 := ⟨fu - 1, by omega⟩
    have hK := h.1
    have hB : BK s.1 s.2 z ow 3 R y.1 := h.2.2.1
    have n2 := hR.1.2.2.1
    have hi : i < nn R 2 := by omega
    show Rn (g_X11_digest_26 N s.1 (f_X11_digest_26 N s.1 fu) z v (nI i) s.2) _
    unfold g_X11_digest_26
    refine r_now hK 2 15 (by decide) ?_
    refine r_gI hK (i := 15) (c := 8) rfl ?_
    rw [hB.2.2.1.1]
    refine rn_f (nI_ge (by omega) (by omega)) ?_
    refine r_now hK 2 15 (by decide) ?_
    refine rn_eq (tb_get (o := 15) (nc := 3) (c := 2) hK (by decide) hB.2.2.1 rfl hi rfl (by decide)) ?_
    refine r_now hK 2 15 (by decide) ?_
    refine rn_eq (tb_get (o := 15) (nc := 3) (c := 0) hK (by decide) hB.2.2.1 rfl hi rfl (by decide)) ?_
    have b := (hrs_le hR.2.1 hi).1
    exact dk79b hK hR hB hi (nn R (1366 + 3 * i + 2)) 0 N _ (by omega) (by omega) (dk26b hN2 h hR m (i + 1) fu _ (by omega) (by omega) ho)
theorem k_digest2 (hN2 : 2100 ≤ N) (h : CI s z ow R K u y cc) (hR : WF R) : Rn (f_X11_digest N s.1 z s.2) (KD z R K u cc (sp_digest R) s) := by
  have hK := h.1
  have hB : BK s.1 s.2 z ow 3 R y.1 := h.2.2.1
  have n1 := hR.1.2.1
  have n2 := hR.1.2.2.1
  unfold f_X11_digest
  rw [← z0 (z := z)]
  refine rn_t (ks_o hK 0 11 rfl) ?_
  refine r_gP hK 0 11 1 3 rfl (by decide) ?_
  refine r_gI hK (i := 3) (c := 1) rfl ?_
  rw [z0 (z := z)]
  refine r_now hK 1 4 (by decide) ?_
  refine rn_eq (k_digestOf2 hN2 hK (by decide) (by omega) hB.2.1) ?_
  rw [hB.1]
  exact dk26b hN2 h hR (nn R 2) 0 N _ (by omega) (by omega) rfl
end DIG2
/-! 9zt4.least2.lean.txt -/
/-! least: what it answers -/
def lsBad (R : Nat → Int32) (x : Int32) : Prop := 14 < (oddl R).length ∨ ¬ BW R ∨ (x < 0 ∨ nI (2 ^ (oddl R).length) ≤ x)
noncomputable def sp_least (R : Nat → Int32) (x : Int32) : Int32 × Option (Nat → Int32) := @ite _ (lsBad R x) (Classical.propDecidable _) (-2, none) (if LSx R x.toNatClampNeg ≤ 8400000 then (nI (LSx R x.toNatClampNeg), none) else (-8, none))
section LST2
variable {s : AS} {sh : Sh} {d d0 d' : Dt} {z : Nat} {ow : Nat → Nat} {R K : Nat → Int32} {u : Bool} {y : YL} {N cc b S : Nat} {L : Nat → Nat}
theorem wk_least {x : Int32} : WKo (sp_least R x) := fun R' e => by
  unfold sp_least at e
  by_cases h : lsBad R x
  · rw [ite_p h] at e
    cases e
  · rw [ite_n h] at e
    split at e
    · cases e
    · cases e
theorem gO_fin (hW : WS R) (hN : WN R) (i j : Nat) : gO R i j ≤ 600000 ∨ 10 ^ 12 ≤ gO R i j := by
  unfold gO
  generalize (oddl R).getD j 0 = b
  have ha : (oddl R).getD i 0 < nn R 0 ∨ (oddl R).getD i 0 = 0 := by
    rcases Nat.lt_or_ge i (oddl R).length with h | h
    · exact Or.inl (inO_dg hW hN ⟨i, h, rfl⟩).1
    · right
      rw [List.getD_eq_getElem?_getD, List.getElem?_eq_none h]
      rfl
  generalize (oddl R).getD i 0 = a at ha
  by_cases h : ∃ n, dst R a b n
  · obtain ⟨n, hn⟩ := h
    left
    rw [dd_eq hn]
    rcases Nat.lt_or_ge a (nn R 0) with q | q
    · exact dst_le hW hN hn q
    · obtain ⟨⟨p, hp, hl⟩, -⟩ := hn
      cases p with
      | nil =>
        rw [← hl]
        exact Nat.zero_le _
      | cons s p =>
        obtain ⟨c, hc, -, -⟩ := hp
        omega
  · right
    exact Nat.le_of_eq (ddB_no h).symm
theorem LS_dich (hW : WS R) (hN : WN R) (hm : (oddl R).length ≤ 14) : LSx R S ≤ 8400000 ∨ 10 ^ 12 ≤ LSx R S := by
  have := lsF_fin (g := gO R) (m := (oddl R).length) (gO_fin hW hN) (oddl R).length S
  have : 600000 * (oddl R).length ≤ 600000 * 14 := Nat.mul_le_mul_left _ hm
  unfold LSx
  omega
theorem k_leastOf2 {B : Nat} (h : CI s z ow R K u y cc) (ht : TabOK s.2 z R) (hL : 2 ^ (oddl R).length ≤ y.2.2.2.1) (hB : B < 2 ^ (oddl R).length) : f_X4_leastOf N s.1 (z + 201) (nI B) s.2 = some (nI (min (LSx R B) 1000000000)) := by
  have hK := h.1
  obtain ⟨-, -, ⟨a, t1, t2, t3, t4, t5, t6⟩, -⟩ := id h.2.2.2.2.1
  obtain ⟨m1, -, a', t7, t8⟩ := ht
  have hp14 : 2 ^ (oddl R).length ≤ 2 ^ 14 := Nat.pow_le_pow_right (by decide) m1
  have e : a' = a := by
    rw [t7] at t1
    exact Option.some.inj t1
  subst e
  refine rn_val ?_
  unfold f_X4_leastOf f_X4_leastOf_22 f_X4_leastOf_24
  refine rn_t (ks_o hK 201 4 rfl) ?_
  refine rn_f (nI_pos (by omega)) ?_
  refine r_gQ hK a' t1 rfl ?_
  refine rn_eq (q_len ⟨t3, t4⟩ (by decide)) ?_
  have q : B < y.2.2.2.1 := by omega
  refine rn_f (nI_ge q (by omega)) ?_
  refine r_gQ hK a' t1 rfl ?_
  refine rn_eq (q_aT ⟨t3, t4⟩ B rfl q (by omega)) ?_
  exact rn_some (t8 B hB)
theorem k_least2 {x : Int32} (hN2 : 20000 ≤ N) (h : CI s z ow R K u y cc) (hR : WF R) : Rn (f_X11_least N z x s) (KO z R K u cc (sp_least R x) s) := by
  have hK := h.1
  have n0 := hR.1.1.2
  have hol := oddl_len hR.2.2.1 hR.1
  unfold f_X11_least
  refine rn_t (ks_o hK 0 11 rfl) ?_
  refine r_gP hK 0 11 4 201 rfl (by decide) ?_
  refine rn_bind (k_list (by omega) hK hR.1 hR.2.2.1 h.2.2.1.2.1 h.2.2.2.2.2.2.2.2.1) (fun r hr => ?_)
  obtain ⟨l1, l2, l3, l4, l5⟩ := hr
  have ht : PRt r.2 z R := prt_lf h l1
  have q := ci_pr h (l1.fd h.2.1) (by rw [l1.1]) (Or.inr ⟨l3, l4, l5⟩) ht (l1.2.2 7 (by decide) (by decide))
  have bad : lsBad R x → Rn (f_X11_least_35 N z (s.1, r.2)) (KO z R K u cc (sp_least R x) s) := fun hb => by
    rw [show sp_least R x = (-2, none) from ite_p hb]
    unfold f_X11_least_35
    refine rn_bind (k_refuse hK) (fun r2 hr2 => rn_some ?_)
    have g := ko_lg2 (s1 := (s.1, r.2)) q.1 q.2 hr2
    rw [hr2.1] at g
    rw [hr2.1]
    exact g
  rw [l2]
  refine rn_ite (fun q1 => bad (Or.inl ((nI_ltI (a := 14) (by decide) (by omega)).mp q1))) (fun q1 => ?_)
  have hm14 : (oddl R).length ≤ 14 := Nat.le_of_not_lt (fun r => q1 (nI_lt (a := 14) r (by omega)))
  have hp14 : 2 ^ (oddl R).length ≤ 2 ^ 14 := Nat.pow_le_pow_right (by decide) hm14
  refine r_gP hK 0 11 1 3 rfl (by decide) ?_
  refine rn_bind (k_hasOneWay (by omega) hK hR.1 hR.2.2.1 q.1.2.2.1.2.1) (fun v hv => ?_)
  rcases hv with ⟨hv, hBW⟩ | ⟨hv, hBW⟩
  rotate_left
  · exact rn_t (by rw [hv]; decide) (bad (Or.inr (Or.inl hBW)))
  refine rn_f (fun g => g hv) ?_
  refine rn_ite (fun g => bad (Or.inr (Or.inr (Or.inl g)))) (fun q2 => ?_)
  rw [sb_pow (by omega)]
  refine rn_ite (fun q3 => ?_) (fun g => bad (Or.inr (Or.inr (Or.inr (Int32.not_lt.mp g)))))
  have q4 : ¬ (x < 0 ∨ nI (2 ^ (oddl R).length) ≤ x) := fun r => r.elim q2 (fun r => Int32.not_le.mpr q3 r)
  have hgood : ¬ lsBad R x := fun g => g.elim (fun g => by omega) (fun g => g.elim (fun g => g hBW) q4)
  rw [show sp_least R x = _ from ite_n hgood]
  obtain ⟨B, hB, rfl, eB⟩ := st_of (n := 2 ^ (oddl R).length) (by omega) q4
  rw [eB]
  refine r_gP hK 0 11 3 77 rfl (by decide) ?_
  refine r_gP hK 0 11 4 201 rfl (by decide) ?_
  refine rn_bind (k_oddBits (by omega) hK hR.1 hR.2.2.1 q.1.2.2.1.2.1) (fun w hw => ?_)
  refine rn_bind (ci_each (s := (s.1, r.2)) (goals := w) (by omega) q.1 hR (ob_lt hR.2.2.1 hR.1 hw)) (fun d1 hd => ?_)
  obtain ⟨c1, f1, e1⟩ := hd
  refine r_gP hK 0 11 4 201 rfl (by decide) ?_
  have r1 : ∀ i, 200 < i → d1.1 (z + i) = r.2.1 (z + i) := fun i hi => (e1.1.2 (z + i) (by omega)).1
  refine rn_bind (k_fillTable (s := (s.1, d1)) hN2 c1 hR (by show d1.1 (z + 201) 4 = 1; rw [r1 201 (by decide)]; exact l3) (by show d1.1 (z + 201) 3 = _; rw [r1 201 (by decide)]; exact l4) (fun k hk => by show d1.1 (z + 202) k = _; rw [r1 202 (by decide)]; exact l5 k hk) hm14 (go_each hR.2.2.1 hR.1 hw e1)) (fun s2 hs2 => ?_)
  obtain ⟨ow2, Lt2, -, c2, f2, t1, t2, -, -⟩ := hs2
  have hK2 := c2.1
  have f3 : RFR z s s2 := (q.2.tr f1).tr f2
  unfold f_X11_least_63 f_X11_least_92
  refine r_gP hK2 0 11 4 201 rfl (by decide) ?_
  refine rn_eq (k_leastOf2 c2 t2.1 t2.2 hB) ?_
  rcases LS_dich (S := B) hR.2.2.1 hR.1 hm14 with g | g
  · rw [show min (LSx R B) 1000000000 = LSx R B by omega, if_pos g]
    refine rn_t (nI_lt (b := 1000000000) (by omega) (by decide)) ?_
    refine rn_bind (k_answer hK2) (fun r2 hr2 => rn_some ?_)
    have g9 := ko_lg2 c2 f3 hr2
    rw [hr2.1] at g9
    rw [hr2.1]
    exact g9
  · rw [show min (LSx R B) 1000000000 = 1000000000 by omega, if_neg (show ¬ LSx R B ≤ 8400000 by omega)]
    refine rn_f (nI_nlt (b := 1000000000) (Nat.le_refl _) (by decide)) ?_
    refine rn_bind (k_refuse hK2) (fun r2 hr2 => rn_some ?_)
    have g9 := ko_lg2 c2 f3 hr2
    rw [hr2.1] at g9
    rw [hr2.1]
    exact g9
theorem m_least2 {x : Int32} (hNf : 2 ^ 40 ≤ N) (hK : KS sh z) (h : RI d z R K u) (hR : WF R) : Rn (f_X12_least N sh (z + 242) x d) (RO z R K u (sp_least R x) d) := by
  have hol := oddl_len hR.2.2.1 hR.1
  unfold f_X12_least f_X12_least_40 f_X12_least_86
  refine rn_t (ks_o hK 242 12 rfl) ?_
  refine rn_bind (m_odds (by omega) hK h hR) (fun d1 hd1 => ?_)
  refine rn_bind hd1 (fun d2 hd2 => ?_)
  obtain ⟨hm, hri, hod⟩ := hd2
  have bad : lsBad R x → sp_least R x = (-2, none) := fun hb => ite_p hb
  refine r_gI hK (i := 242) (c := 12) rfl ?_
  rw [hod.1]
  refine rn_ite (fun q1 => ro_refuses4 hK hri hm (bad (Or.inl ((nI_ltI (a := 14) (by decide) (by omega)).mp q1)))) (fun q1 => ?_)
  have hm14 : (oddl R).length ≤ 14 := Nat.le_of_not_lt (fun r => q1 (nI_lt (a := 14) r (by omega)))
  refine r_gI hK (i := 242) (c := 12) rfl ?_
  rw [hod.1, sb_pow (by omega)]
  have hp14 : 2 ^ (oddl R).length ≤ 2 ^ 14 := Nat.pow_le_pow_right (by decide) hm14
  have hp0 : 0 < 2 ^ (oddl R).length := Nat.two_pow_pos _
  refine rn_eq m_in ?_
  have e9 : (x < 0 ∨ nI (2 ^ (oddl R).length) - 1 < x) ↔ (x < 0 ∨ nI (2 ^ (oddl R).length) ≤ x) := by rw [lt_pred (by omega)]
  refine rn_ite (fun q2 => ro_refuses4 hK hri hm (bad (Or.inr (Or.inr (e9.mp (ite01.mp q2)))))) (fun q2 => ?_)
  have q2 : ¬ (x < 0 ∨ nI (2 ^ (oddl R).length) ≤ x) := fun r => q2 (ite01.mpr (e9.mpr r))
  refine rn_bind (m_isOneWay (by omega) hK hR.1 hR.2.2.1 hri.1) (fun v hv => ?_)
  rcases hv with ⟨hv, hBW⟩ | ⟨hv, hBW⟩
  rotate_left
  · exact rn_f (by rw [hv]; decide) (ro_refuses4 hK hri hm (bad (Or.inr (Or.inl hBW))))
  refine rn_t hv ?_
  have hgood : ¬ lsBad R x := fun g => g.elim (fun g => by omega) (fun g => g.elim (fun g => g hBW) q2)
  rw [show sp_least R x = _ from ite_n hgood]
  obtain ⟨B, hB, rfl, eB⟩ := st_of (by omega) q2
  rw [eB]
  refine rn_bind (m_reckon hNf hK hri hR) (fun d3 hd3 => ?_)
  obtain ⟨k1, k2, k3⟩ := hd3
  have hod3 : ODr d3 z R := by
    unfold ODr OL
    rw [k1.2.2 16 (by decide), k1.2.1 (z + 252) (by omega) (by omega)]
    exact hod
  refine rn_bind (m_findLeast (by omega) hK hR.1 hR.2.2.1 ⟨k2.1, k3⟩ hod3 hm14 hB) (fun d4 hd4 => ?_)
  have hri4 : RI d4 z R K u := by
    obtain ⟨h1, h2, h3, ⟨g, h4, h5⟩, h6⟩ := k2
    have r : ∀ i, i ≠ 254 → d4.1 (z + i) = d3.1 (z + i) := fun i q => hd4.1.2 (z + i) (by omega)
    refine ⟨by rw [r 243 (by decide)]; exact h1, by rw [r 244 (by decide)]; exact h2, by rw [r 242 (by decide)]; exact h3, ⟨g, h4, by rw [r 242 (by decide)]; exact h5⟩, ?_⟩
    rw [r 242 (by decide), r 247 (by decide)]
    exact h6
  have hm4 : MFR z d d4 := hm.tr (k1.mfr.tr ⟨by rw [hd4.1.1], by rw [hd4.1.1], fun a q => ⟨hd4.1.2 a (by omega), by rw [hd4.1.1]⟩⟩)
  have hv4 : d4.1 (z + 254) B = nI (min (LSx R B) (2 ^ 28)) := hd4.2 B (Nat.lt_succ_self B) (sub_and.mp (Nat.and_self B))
  refine r_gP hK 242 12 18 254 rfl (by decide) ?_
  refine rn_eq (q_aT (ks_a hK 254 0 16384 rfl) B rfl (by omega) (by decide)) ?_
  rw [hv4]
  rcases LS_dich (S := B) hR.2.2.1 hR.1 hm14 with g | g
  · rw [show min (LSx R B) (2 ^ 28) = LSx R B by omega, if_pos g]
    refine rn_t (nI_lt (b := 268435456) (by omega) (by decide)) ?_
    refine r_gP hK 242 12 18 254 rfl (by decide) ?_
    refine rn_eq (q_aT (ks_a hK 254 0 16384 rfl) B rfl (by omega) (by decide)) ?_
    rw [hv4]
    exact ro_says4 hK hri4 hm4 (by rw [show min (LSx R B) (2 ^ 28) = LSx R B by omega])
  · rw [show min (LSx R B) (2 ^ 28) = 268435456 by omega, if_neg (show ¬ LSx R B ≤ 8400000 by omega)]
    refine rn_f (nI_nlt (b := 268435456) (Nat.le_refl _) (by decide)) ?_
    exact ro_refuses4 hK hri4 hm4 rfl
end LST2
/-! 9zt5.way3.lean.txt -/
/-! way wayAt: what they answer -/
noncomputable def wal (R : Nat → Int32) (b : Nat) : Nat → Nat → Int32
  | 0, a => if a = b then -1 else nI (nxt R b a).1
  | i + 1, a => if a = b then -1 else wal R b i (nxt R b a).2
noncomputable def sp_way (R : Nat → Int32) (x x2 : Int32) : Int32 × Option (Nat → Int32) := if (x < 0 ∨ nI (nn R 0) ≤ x) ∨ (x2 < 0 ∨ nI (nn R 0) ≤ x2) then (-2, none) else if dd R x.toNatClampNeg x2.toNatClampNeg ≤ 600000 then (nI (dd R x.toNatClampNeg x2.toNatClampNeg), none) else (-8, none)
noncomputable def sp_wayAt (R : Nat → Int32) (x x2 i : Int32) : Int32 × Option (Nat → Int32) := if (x < 0 ∨ nI (nn R 0) ≤ x) ∨ (x2 < 0 ∨ nI (nn R 0) ≤ x2) then (-2, none) else if dd R x.toNatClampNeg x2.toNatClampNeg ≤ 600000 then ((if i < 0 then -1 else wal R x2.toNatClampNeg i.toNatClampNeg x.toNatClampNeg), none) else (-8, none)
section WY3
variable {s : AS} {sh : Sh} {d d0 d' : Dt} {z : Nat} {ow : Nat → Nat} {R K : Nat → Int32} {u : Bool} {y : YL} {c N : Nat} {o : Int32 × Option (Nat → Int32)}
theorem wk_way {x x2 : Int32} : WKo (sp_way R x x2) := fun R' e => by
  unfold sp_way at e
  split at e
  · cases e
  · split at e
    · cases e
    · cases e
theorem wk_wayAt {x x2 i : Int32} : WKo (sp_wayAt R x x2 i) := fun R' e => by
  unfold sp_wayAt at e
  split at e
  · cases e
  · split at e
    · cases e
    · cases e
theorem wal_b {b : Nat} : ∀ i, wal R b i b = -1
  | 0 => if_pos rfl
  | _ + 1 => if_pos rfl
theorem wal_end {b : Nat} : ∀ (k i a : Nat), rk R b k a → k ≤ i → wal R b i a = -1
  | 0, i, a, h, _ => by
    have h : a = b := h
    rw [h]
    exact wal_b i
  | k + 1, i, a, h, hi => by
    by_cases e : a = b
    · rw [e]
      exact wal_b i
    · obtain ⟨i, rfl⟩ : ∃ j, i = j + 1 := ⟨i - 1, by omega⟩
      rw [show wal R b (i + 1) a = wal R b i (nxt R b a).2 from if_neg e]
      exact wal_end k i _ (h.resolve_left e).2.2 (by omega)
theorem m_way2 {x x2 : Int32} (hNf : 2 ^ 40 ≤ N) (hK : KS sh z) (h : RI d z R K u) (hR : WF R) : Rn (f_X12_way N sh (z + 242) x x2 d) (RO z R K u (sp_way R x x2) d) := by
  have n0 := hR.1.1.2
  have hF := ks_a hK 247 0 3600 rfl
  unfold f_X12_way f_X12_way_16 f_X12_way_67
  refine rn_t (ks_o hK 242 12 rfl) ?_
  refine rn_eq (ri_isCrossing hK h hR.1) ?_
  refine rn_ite (fun h1 => ro_refuses4 hK h MFR.rf (if_pos (Or.inl (ite01.mp h1)))) (fun h1 => ?_)
  have h1 : ¬ (x < 0 ∨ nI (nn R 0) ≤ x) := fun q => h1 (ite01.mpr q)
  refine rn_eq (ri_isCrossing hK h hR.1) ?_
  refine rn_ite (fun h2 => ?_) (fun h2 => ro_refuses4 hK h MFR.rf (if_pos (Or.inr (ite01.mp (Decidable.of_not_not h2)))))
  have h2 : ¬ (x2 < 0 ∨ nI (nn R 0) ≤ x2) := fun q => h2 (ite01.mpr q)
  rw [show sp_way R x x2 = _ from if_neg (fun q => q.elim h1 h2)]
  obtain ⟨a, ha, rfl, ea⟩ := st_of (by omega) h1
  obtain ⟨b, hb, rfl, eb⟩ := st_of (by omega) h2
  rw [ea, eb]
  refine rn_bind (m_reckon hNf hK h hR) (fun d1 hd => ?_)
  obtain ⟨k1, k2, k3⟩ := hd
  refine r_gP hK 242 12 9 247 rfl (by decide) ?_
  refine rn_eq (q_aT hF (60 * a + b) (ix_far a b) (by omega) (by decide)) ?_
  rcases k3 a b ha hb with ⟨n, q1, q2, q3⟩ | ⟨q1, q2⟩
  · have hn := dst_le hR.2.2.1 hR.1 q1 ha
    rw [dd_eq q1, if_pos hn, q3]
    refine rn_t (nI_lt (b := 268435456) q2 (by decide)) ?_
    refine r_gP hK 242 12 9 247 rfl (by decide) ?_
    refine rn_eq (q_aT hF (60 * a + b) (ix_far a b) (by omega) (by decide)) ?_
    exact ro_says4 hK k2 k1.mfr (by rw [q3])
  · rw [dd_no q1, if_neg (show ¬ 10 ^ 12 ≤ 600000 by decide), q2]
    refine rn_f (nI_nlt (b := 268435456) (Nat.le_refl _) (by decide)) ?_
    exact ro_refuses4 hK k2 k1.mfr rfl
theorem k_way2 {x x2 : Int32} (hN2 : 300 ≤ N) (h : CI s z ow R K u y c) (hR : WF R) : Rn (f_X11_way N s.1 z x x2 s.2) (KD z R K u c (sp_way R x x2) s) := by
  have hK := h.1
  have n0 := hR.1.1.2
  unfold f_X11_way f_X11_way_22 f_X11_way_69
  refine rn_t (ks_o hK 0 11 rfl) ?_
  refine r_gP hK 0 11 1 3 rfl (by decide) ?_
  refine rn_eq (k_hasCrossing hK h.2.2.1.1 hR.1) ?_
  refine rn_ite (fun h1 => kd_refuses h (if_pos (Or.inl (ite01.mp h1)))) (fun h1 => ?_)
  have h1 : ¬ (x < 0 ∨ nI (nn R 0) ≤ x) := fun q => h1 (ite01.mpr q)
  refine r_gP hK 0 11 1 3 rfl (by decide) ?_
  refine rn_eq (k_hasCrossing hK h.2.2.1.1 hR.1) ?_
  refine rn_ite (fun h2 => ?_) (fun h2 => kd_refuses h (if_pos (Or.inr (ite01.mp (Decidable.of_not_not h2)))))
  have h2 : ¬ (x2 < 0 ∨ nI (nn R 0) ≤ x2) := fun q => h2 (ite01.mpr q)
  rw [show sp_way R x x2 = _ from if_neg (fun q => q.elim h1 h2)]
  obtain ⟨a, ha, rfl, ea⟩ := st_of (by omega) h1
  obtain ⟨b, hb, rfl, eb⟩ := st_of (by omega) h2
  rw [ea, eb]
  refine r_gP hK 0 11 3 77 rfl (by decide) ?_
  refine rn_bind (ci_each (goals := bt b) hN2 h hR (bt_lt hR.1 hb)) (fun d1 hd => ?_)
  obtain ⟨c1, f1, e1, e2, e3, e4, e5⟩ := hd
  refine r_gP hK 0 11 3 77 rfl (by decide) ?_
  refine rn_eq (k_between hK c1.spn (by omega) (by omega)) ?_
  rcases e4 b (by omega) (e5 b (by rw [bit_bt (by omega)]; simp)) a (by omega) with ⟨n, q1, q2, q3⟩ | ⟨q1, q2⟩
  · have hn := dst_le hR.2.2.1 hR.1 q1 ha
    rw [dd_eq q1, if_pos hn, q3]
    refine rn_t (nI_lt (b := 1000000000) (by omega) (by decide)) ?_
    exact rn_bind (k_answer hK) (fun r hr => rn_some (kd_of rfl hr.1 (kr_lg c1 f1 hr)))
  · rw [dd_no q1, if_neg (show ¬ 10 ^ 12 ≤ 600000 by decide), q2]
    refine rn_f (nI_nlt (b := 1000000000) (Nat.le_refl _) (by decide)) ?_
    exact rn_bind (k_refuse hK) (fun r hr => rn_some (kd_of rfl hr.1 (kr_lg c1 f1 hr)))
theorem wayAt_loop2 {b : Nat} {l3 : Int32} (hN1 : 151 ≤ N) (hK : KS sh z) (h : RI d z R K u) (hR : WF R) (hm : MFR z d0 d) (hfar : ∀ a b, a < nn R 0 → b < nn R 0 → dOK R 268435456 a b (d.1 (z + 247) (60 * a + b))) (hb : b < nn R 0) (h3 : ¬ l3 < 0) : ∀ (k a fu i : Nat), rk R b k a → a < nn R 0 → k < fu → i < 2 ^ 31 → o = (wal R b i a, none) → Rn (f_X12_wayAt_56 N sh fu (z + 242) (nI b) l3 (nI a) (nI i) d) (RO z R K u o d0)
  | k, a, 0, i, hk, ha, hf, _, _ => absurd hf (Nat.not_lt_zero k)
  | 0, a, fu + 1, i, hk, ha, hf, hi, ho => by
    show Rn (g_X12_wayAt_56 N sh (f_X12_wayAt_56 N sh fu) (z + 242) (nI b) l3 (nI a) (nI i) d) _
    unfold g_X12_wayAt_56 f_X12_wayAt_103
    refine rn_f h3 ?_
    have hk : a = b := hk
    refine rn_t (by rw [hk]) (ro_says4 hK h hm ?_)
    rw [ho, hk, wal_b]
  | k + 1, a, fu + 1, i, hk, ha, hf, hi, ho => by
    have n0 := hR.1.1.2
    have n1 := hR.1.2.1.2
    have ih := wayAt_loop2 hN1 hK h hR hm hfar hb h3 k
    show Rn (g_X12_wayAt_56 N sh (f_X12_wayAt_56 N sh fu) (z + 242) (nI b) l3 (nI a) (nI i) d) _
    unfold g_X12_wayAt_56 f_X12_wayAt_103 f_X12_wayAt_80
    refine rn_f h3 ?_
    by_cases hne : a = b
    · refine rn_t (by rw [hne]) (ro_says4 hK h hm ?_)
      rw [ho, hne, wal_b]
    refine rn_f (fun q => hne (nI_inj q (by omega) (by omega))) ?_
    obtain ⟨⟨n, hd⟩, hq, hr⟩ := hk.resolve_left hne
    have hs := hq.1.2.1.1
    refine rn_eq (m_onTo hN1 hK hR.1 hR.2.2.1 h.1 hfar ha hb hd hne) ?_
    cases i with
    | zero =>
      refine rn_f (fun q => q rfl) (ro_says4 hK h hm ?_)
      rw [ho, show wal R b 0 a = nI (nxt R b a).1 from if_neg hne]
    | succ i =>
      refine rn_t (nI_ne0 (by omega) (by omega)) ?_
      refine rn_eq (m_leads hK h.1 (by omega)) ?_
      rw [nxt_leads hR.2.2.1 hR.1 ha hq, pk_m1]
      refine ih _ fu i hr hq.1.1 (by omega) (by omega) ?_
      rw [ho, show wal R b (i + 1) a = wal R b i (nxt R b a).2 from if_neg hne]
theorem m_wayAt2 {x x2 i : Int32} (hNf : 2 ^ 40 ≤ N) (hK : KS sh z) (h : RI d z R K u) (hR : WF R) : Rn (f_X12_wayAt N sh (z + 242) x x2 i d) (RO z R K u (sp_wayAt R x x2 i) d) := by
  have n0 := hR.1.1.2
  have hF := ks_a hK 247 0 3600 rfl
  unfold f_X12_wayAt f_X12_wayAt_16
  refine rn_t (ks_o hK 242 12 rfl) ?_
  refine rn_eq (ri_isCrossing hK h hR.1) ?_
  refine rn_ite (fun h1 => ro_refuses4 hK h MFR.rf (if_pos (Or.inl (ite01.mp h1)))) (fun h1 => ?_)
  have h1 : ¬ (x < 0 ∨ nI (nn R 0) ≤ x) := fun q => h1 (ite01.mpr q)
  refine rn_eq (ri_isCrossing hK h hR.1) ?_
  refine rn_ite (fun h2 => ?_) (fun h2 => ro_refuses4 hK h MFR.rf (if_pos (Or.inr (ite01.mp (Decidable.of_not_not h2)))))
  have h2 : ¬ (x2 < 0 ∨ nI (nn R 0) ≤ x2) := fun q => h2 (ite01.mpr q)
  rw [show sp_wayAt R x x2 i = _ from if_neg (fun q => q.elim h1 h2)]
  obtain ⟨a, ha, rfl, ea⟩ := st_of (by omega) h1
  obtain ⟨b, hb, rfl, eb⟩ := st_of (by omega) h2
  rw [ea, eb]
  refine rn_bind (m_reckon hNf hK h hR) (fun d1 hd => ?_)
  obtain ⟨k1, k2, k3⟩ := hd
  refine r_gP hK 242 12 9 247 rfl (by decide) ?_
  refine rn_eq (q_aT hF (60 * a + b) (ix_far a b) (by omega) (by decide)) ?_
  rcases k3 a b ha hb with ⟨n, q1, q2, q3⟩ | ⟨q1, q2⟩
  · have hn := dst_le hR.2.2.1 hR.1 q1 ha
    rw [dd_eq q1, if_pos hn, q3]
    refine rn_t (nI_lt (b := 268435456) q2 (by decide)) ?_
    by_cases hi : i < 0
    · rw [if_pos hi]
      obtain ⟨M, rfl⟩ : ∃ M, N = M + 1 := ⟨N - 1, by omega⟩
      show Rn (g_X12_wayAt_56 (M + 1) sh (f_X12_wayAt_56 (M + 1) sh M) (z + 242) (nI b) i (nI a) i d1) _
      unfold g_X12_wayAt_56 f_X12_wayAt_103
      exact rn_t hi (ro_says4 hK k2 k1.mfr rfl)
    · rw [if_neg hi]
      obtain ⟨j, hj, rfl⟩ := nI_of hi
      rw [nI_clamp (by omega)]
      exact wayAt_loop2 (by omega) hK k2 hR k1.mfr k3 hb hi 60 a N j (rk_60 hR.2.2.1 hR.1 q1) ha (by omega) hj rfl
  · rw [dd_no q1, if_neg (show ¬ 10 ^ 12 ≤ 600000 by decide), q2]
    refine rn_f (nI_nlt (b := 268435456) (Nat.le_refl _) (by decide)) ?_
    exact ro_refuses4 hK k2 k1.mfr rfl
theorem streetAt_loop2 {b i : Nat} {L : Nat → Nat} (hN2 : 300 ≤ N) (hK : KS sh z) (hR : WF R) (hS : SPN d z) (hT : TB sh d z ow 4 9 (nn R 1) (vS R) L) (hH : HopOK d z R) (hb : b < nn R 0) (hgb : ∀ a, a < 60 → dOK R 1000000000 a b (d.1 (z + (141 + b)) a)) (hi : i < 60) : ∀ (p k fu a : Nat) (l5 : Int32), k + p = i → p < fu → a < nn R 0 → ((a = b ∧ l5 = -1) ∨ (a ≠ b ∧ l5 = nI (nxt R b a).1 ∧ nxS R b a (nxt R b a).1 (nxt R b a).2)) → Rn (f_X10_streetAt_27 N sh d fu (z + 77) (nI b) (nI i) (nI a) l5 (nI k)) (fun r => r = wal R b p a)
  | 0, k, fu, a, l5, hk, hf, ha, h5 => by
    obtain ⟨fu, rfl⟩ : ∃ q, fu = q + 1 := ⟨fu - 1, by omega⟩
    show Rn (g_X10_streetAt_27 N sh (f_X10_streetAt_27 N sh d fu) (z + 77) (nI b) (nI i) (nI a) l5 (nI k) d) _
    unfold g_X10_streetAt_27 f_X10_streetAt_67
    refine rn_t (nI_le (by omega) (by omega)) (rn_some ?_)
    rcases h5 with ⟨e, h5⟩ | ⟨e, h5, -⟩
    · rw [h5, e, wal_b]
    · rw [h5, show wal R b 0 a = nI (nxt R b a).1 from if_neg e]
  | p + 1, k, fu, a, l5, hk, hf, ha, h5 => by
    obtain ⟨fu, rfl⟩ : ∃ q, fu = q + 1 := ⟨fu - 1, by omega⟩
    have n0 := hR.1.1.2
    have n1 := hR.1.2.1.2
    have ih := streetAt_loop2 hN2 hK hR hS hT hH hb hgb hi p (k + 1) fu
    show Rn (g_X10_streetAt_27 N sh (f_X10_streetAt_27 N sh d fu) (z + 77) (nI b) (nI i) (nI a) l5 (nI k) d) _
    unfold g_X10_streetAt_27 f_X10_streetAt_67
    refine rn_f (nI_ge (by omega) (by omega)) ?_
    rcases h5 with ⟨e, h5⟩ | ⟨e, e5, hq⟩
    · refine rn_t h5 (rn_some ?_)
      rw [h5, e, wal_b]
    obtain ⟨t1, t2, n', m', t3, t4, t5⟩ := hq.1
    have hs := t2.1
    rw [e5]
    refine rn_f (nI_m1 (by omega)) ?_
    refine r_gP hK 77 10 0 3 rfl (by decide) ?_
    refine rn_eq (k_otherEnd hK hT hs) ?_
    rw [oth_edge hR.2.2.1 hR.1 ha t1 t2]
    have kn := k_nextStreet (N := N) hN2 hK hR.1 hR.2.2.1 hS hT hH hb hgb t1
    rw [nI_1, show wal R b (p + 1) a = wal R b p (nxt R b a).2 from if_neg e]
    by_cases e2 : (nxt R b a).2 = b
    · refine rn_eq (kn.2 (Or.inl e2)) ?_
      exact ih _ _ (by omega) (by omega) t1 (Or.inl ⟨e2, rfl⟩)
    · refine rn_eq (kn.1 ⟨m', t4⟩ e2) ?_
      exact ih _ _ (by omega) (by omega) t1 (Or.inr ⟨e2, rfl, nxt_ok t4 e2⟩)
theorem k_streetAt2 {a b n : Nat} {i : Int32} {L : Nat → Nat} (hN2 : 300 ≤ N) (hK : KS sh z) (hR : WF R) (hS : SPN d z) (hT : TB sh d z ow 4 9 (nn R 1) (vS R) L) (hH : HopOK d z R) (ha : a < nn R 0) (hb : b < nn R 0) (hgb : ∀ a, a < 60 → dOK R 1000000000 a b (d.1 (z + (141 + b)) a)) (hd : dst R a b n) : f_X10_streetAt N sh (z + 77) (nI a) (nI b) i d = some (if i < 0 then -1 else wal R b i.toNatClampNeg a) := by
  have n0 := hR.1.1.2
  refine rn_val ?_
  unfold f_X10_streetAt f_X10_streetAt_10
  refine rn_t (ks_o hK 77 10 rfl) ?_
  by_cases h1 : i < 0
  · rw [show (if i < 0 then (-1 : Int32) else wal R b i.toNatClampNeg a) = -1 from if_pos h1]
    exact rn_t h1 (rn_some rfl)
  rw [show (if i < 0 then (-1 : Int32) else wal R b i.toNatClampNeg a) = wal R b i.toNatClampNeg a from if_neg h1]
  refine rn_f h1 ?_
  obtain ⟨j, hj, rfl⟩ := nI_of h1
  rw [nI_clamp (by omega)]
  refine rn_ite (fun h2 => ?_) (fun h2 => ?_)
  · have h2 : j < 60 := (nI_ltI (b := 60) (by omega) (by decide)).mp h2
    have kn := k_nextStreet (N := N) hN2 hK hR.1 hR.2.2.1 hS hT hH hb hgb ha
    by_cases e : a = b
    · refine rn_eq (kn.2 (Or.inl e)) ?_
      exact streetAt_loop2 hN2 hK hR hS hT hH hb hgb h2 j 0 N a _ (by omega) (by omega) ha (Or.inl ⟨e, rfl⟩)
    · refine rn_eq (kn.1 ⟨n, hd⟩ e) ?_
      exact streetAt_loop2 hN2 hK hR hS hT hH hb hgb h2 j 0 N a _ (by omega) (by omega) ha (Or.inr ⟨e, rfl, nxt_ok hd e⟩)
  · have h2 : 60 ≤ j := Nat.le_of_not_lt (fun q => h2 (nI_lt (b := 60) q (by decide)))
    exact rn_some (wal_end 60 j a (rk_60 hR.2.2.1 hR.1 hd) h2).symm
theorem k_wayAt2 {x x2 i : Int32} (hN2 : 300 ≤ N) (h : CI s z ow R K u y c) (hR : WF R) : Rn (f_X11_wayAt N s.1 z x x2 i s.2) (KD z R K u c (sp_wayAt R x x2 i) s) := by
  have hK := h.1
  have n0 := hR.1.1.2
  unfold f_X11_wayAt f_X11_wayAt_22
  refine rn_t (ks_o hK 0 11 rfl) ?_
  refine r_gP hK 0 11 1 3 rfl (by decide) ?_
  refine rn_eq (k_hasCrossing hK h.2.2.1.1 hR.1) ?_
  refine rn_ite (fun h1 => kd_refuses h (if_pos (Or.inl (ite01.mp h1)))) (fun h1 => ?_)
  have h1 : ¬ (x < 0 ∨ nI (nn R 0) ≤ x) := fun q => h1 (ite01.mpr q)
  refine r_gP hK 0 11 1 3 rfl (by decide) ?_
  refine rn_eq (k_hasCrossing hK h.2.2.1.1 hR.1) ?_
  refine rn_ite (fun h2 => ?_) (fun h2 => kd_refuses h (if_pos (Or.inr (ite01.mp (Decidable.of_not_not h2)))))
  have h2 : ¬ (x2 < 0 ∨ nI (nn R 0) ≤ x2) := fun q => h2 (ite01.mpr q)
  rw [show sp_wayAt R x x2 i = _ from if_neg (fun q => q.elim h1 h2)]
  obtain ⟨a, ha, rfl, ea⟩ := st_of (by omega) h1
  obtain ⟨b, hb, rfl, eb⟩ := st_of (by omega) h2
  rw [ea, eb]
  refine r_gP hK 0 11 3 77 rfl (by decide) ?_
  refine rn_bind (ci_each (goals := bt b) hN2 h hR (bt_lt hR.1 hb)) (fun d1 hd => ?_)
  obtain ⟨c1, f1, e1, e2, e3, e4, e5⟩ := hd
  refine r_gP hK 0 11 3 77 rfl (by decide) ?_
  refine rn_eq (k_between hK c1.spn (by omega) (by omega)) ?_
  have hgb := e4 b (by omega) (e5 b (by rw [bit_bt (by omega)]; simp))
  rcases hgb a (by omega) with ⟨n, q1, q2, q3⟩ | ⟨q1, q2⟩
  · have hn := dst_le hR.2.2.1 hR.1 q1 ha
    rw [dd_eq q1, if_pos hn, q3]
    refine rn_t (nI_lt (b := 1000000000) (by omega) (by decide)) ?_
    refine r_gP hK 0 11 3 77 rfl (by decide) ?_
    refine rn_eq (k_streetAt2 hN2 hK hR c1.spn c1.2.2.1.2.1 e3 ha hb hgb q1) ?_
    exact rn_bind (k_answer hK) (fun r hr => rn_some (kd_of rfl hr.1 (kr_lg c1 f1 hr)))
  · rw [dd_no q1, if_neg (show ¬ 10 ^ 12 ≤ 600000 by decide), q2]
    refine rn_f (nI_nlt (b := 1000000000) (Nat.le_refl _) (by decide)) ?_
    exact rn_bind (k_refuse hK) (fun r hr => rn_some (kd_of rfl hr.1 (kr_lg c1 f1 hr)))
end WY3
/-! 9zt6.cnt.lean.txt -/
/-! count: what it answers -/
def cntR (R : Nat → Int32) (v : Int32) : Int32 := if v = 0 then R 0 else if v = 1 then R 1 else if v = 2 then R 2 else if v = 3 then R 3 else -2
section CNT
variable {s : AS} {sh : Sh} {d : Dt} {z : Nat} {ow : Nat → Nat} {R K : Nat → Int32} {u : Bool} {y : YL} {N c : Nat} {v : Int32}
theorem k_count2 (h : CI s z ow R K u y c) (hR : WF R) : f_X11_count N s.1 z v s.2 = some (cntR R v) := by
  have hK := h.1
  have hB : BK s.1 s.2 z ow 3 R y.1 := h.2.2.1
  obtain ⟨n0, n1, n2, n3, n4⟩ := hR.1
  refine rn_val ?_
  unfold f_X11_count cntR
  refine rn_t (ks_o hK 0 11 rfl) ?_
  by_cases e0 : v = 0
  · refine rn_t e0 ?_
    rw [if_pos e0]
    refine r_gP hK 0 11 1 3 rfl (by decide) ?_
    exact r_gI hK (i := 3) (c := 1) rfl (rn_some hB.1)
  refine rn_f e0 ?_
  rw [if_neg e0]
  by_cases e1 : v = 1
  · refine rn_t e1 ?_
    rw [if_pos e1]
    refine r_now hK 1 4 (by decide) ?_
    exact r_gI hK (i := 4) (c := 8) rfl (rn_some (hB.2.1.1.trans n1.1.symm))
  refine rn_f e1 ?_
  rw [if_neg e1]
  by_cases e2 : v = 2
  · refine rn_t e2 ?_
    rw [if_pos e2]
    refine r_now hK 2 15 (by decide) ?_
    exact r_gI hK (i := 15) (c := 8) rfl (rn_some (hB.2.2.1.1.trans n2.1.symm))
  refine rn_f e2 ?_
  rw [if_neg e2]
  by_cases e3 : v = 3
  · refine rn_t e3 ?_
    rw [if_pos e3]
    refine r_now hK 3 20 (by decide) ?_
    exact r_gI hK (i := 20) (c := 8) rfl (rn_some (hB.2.2.2.1.1.trans n3.1.symm))
  refine rn_f e3 ?_
  rw [if_neg e3]
  exact rn_some rfl
theorem m_count2 (hK : KS sh z) (h : RI d z R K u) : f_X12_count N sh (z + 242) v d = some (cntR R v) := by
  refine rn_val ?_
  unfold f_X12_count f_X12_count_20 cntR
  refine rn_t (ks_o hK 242 12 rfl) ?_
  refine rn_eq m_in ?_
  have e4 : (v < 0 ∨ 3 < v) ↔ (v < 0 ∨ nI 4 ≤ v) := lt_9n (n := 4) (by decide) (by decide)
  by_cases q : v < 0 ∨ 3 < v
  · refine rn_t (ite01.mpr q) (rn_some ?_)
    have n0 : v ≠ 0 := fun e => by rw [e] at q; exact absurd q (by decide)
    have n1 : v ≠ 1 := fun e => by rw [e] at q; exact absurd q (by decide)
    have n2 : v ≠ 2 := fun e => by rw [e] at q; exact absurd q (by decide)
    have n3 : v ≠ 3 := fun e => by rw [e] at q; exact absurd q (by decide)
    rw [if_neg n0, if_neg n1, if_neg n2, if_neg n3]
  · refine rn_f (fun r => q (ite01.mp r)) ?_
    obtain ⟨i, hi, rfl, -⟩ := st_of (x := v) (n := 4) (by decide) (fun r => q (e4.mpr r))
    refine rdg hK h.1 i rfl (by omega) (rn_some ?_)
    match i, hi with
    | 0, _ => rfl
    | 1, _ => rfl
    | 2, _ => rfl
    | 3, _ => rfl
    | n + 4, hi => omega
end CNT
