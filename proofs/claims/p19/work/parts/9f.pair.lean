/-! plough(), pair() of the class -/
section PAI
variable {s s' : AS} {sh : Sh} {d d' d0 : Dt} {z : Nat} {ow ow' : Nat → Nat} {R R' K : Nat → Int32} {u : Bool} {y : YL} {c c' N p : Nat} {q q' : BL}
theorem ci_mono (h : CI s z ow R K u y c) (hc : c ≤ c') : CI s z ow R K u y c' := by
  obtain ⟨hK, hw, b1, b2, b3, b4, b5, b6, b7, b8, b9, b10, b11⟩ := h
  exact ⟨hK, hw, b1, b2, b3, b4, b5, b6, b7, b8, b9, by omega, by have := b11.1; omega, b11.2⟩
theorem ko_mono {o : Int32 × Option (Nat → Int32)} {r : Int32 × AS} (h : KO z R K u c o s r) (hc : c ≤ c') : KO z R K u c' o s r := by
  obtain ⟨h1, h2, ow1, y1, h3⟩ := h
  exact ⟨h1, h2, ow1, y1, ci_mono h3 hc⟩
theorem pb_com {kd mi x w : Int32} (hk : ∀ p, p < nn R 3 → nn R (9426 + 13 * p) = 4 → nn R (9426 + 13 * p + 3) < nn R 3 ∧ nn R (9426 + 13 * p + 4) < nn R 3) (h : PB sh d z ow R) : ∀ p, p < nn R 3 → ∃ a, d.2.2.2 (z + 235) p = some a ∧ BD sh d z ow (comR R kd mi x w) p a := fun p hp => by
  obtain ⟨a, h1, h2⟩ := h p hp
  have e : ∀ p t, p < nn R 3 → t < 13 → nn (comR R kd mi x w) (9426 + 13 * p + t) = nn R (9426 + 13 * p + t) := fun p t h1 h2 => by unfold nn; rw [com_n (by omega) (by omega)]
  have e0 : ∀ p, p < nn R 3 → nn (comR R kd mi x w) (9426 + 13 * p) = nn R (9426 + 13 * p) := fun p h1 => e p 0 h1 (by decide)
  refine ⟨a, h1, ?_⟩
  unfold BD
  rw [e0 p hp]
  rcases h2 with h2 | h2
  · exact Or.inl h2
  · have q := hk p hp h2.1
    rw [e p 3 hp (by decide), e p 4 hp (by decide), e0 _ q.1, e0 _ q.2]
    exact Or.inr h2
theorem wp_two (hR : WF R) : ∀ p, p < nn R 3 → nn R (9426 + 13 * p) = 4 → nn R (9426 + 13 * p + 3) < nn R 3 ∧ nn R (9426 + 13 * p + 4) < nn R 3 := fun p hp h4 => by
  obtain ⟨a, b, h1, h2, h3, h4, -⟩ := (hR.2.2.2.2.1 p hp).2.1 h4
  have n3 := hR.1.2.2.2.1.2
  unfold nn at h1 h2 ⊢
  rw [h3, h4, nI_clamp (show a < 2 ^ 31 by unfold nn at n3; omega), nI_clamp (show b < 2 ^ 31 by unfold nn at n3; omega)]
  exact ⟨h1, h2⟩
theorem k_plough {k m : Int32} (hNf : 300 ≤ N) (h : CI s z ow R K u y c) (hR : WF R) (hKF : WF K) : Rn (f_X11_plough N z k m s) (KO z R K u (c + 1) (sp_plough R k m) s) := by
  have hK := h.1
  have hN := hR.1
  have n3 := hN.2.2.2.1.2
  have hB : BK s.1 s.2 z ow 3 R y.1 := h.2.2.1
  have bad : (k < 0 ∨ 3 < k) ∨ (m < 0 ∨ 10000 < m) → Rn (f_X11_plough_20 N z s) (KO z R K u (c + 1) (sp_plough R k m) s) := fun hb => by
    rw [show sp_plough R k m = _ from if_pos hb]
    unfold f_X11_plough_20
    refine rn_bind (k_refuse hK) (fun r hr => rn_some ?_)
    exact ko_mono (ko_lg h hr rfl) (Nat.le_succ c)
  unfold f_X11_plough
  rw [← z0 (z := z)]
  refine rn_t (ks_o hK 0 11 rfl) ?_
  rw [z0 (z := z)]
  refine rn_ite (fun h1 => bad (Or.inl (Or.inl h1))) (fun h1 => ?_)
  refine rn_ite (fun h2 => bad (Or.inl (Or.inr h2))) (fun h2 => ?_)
  refine rn_ite (fun h3 => bad (Or.inr (Or.inl h3))) (fun h3 => ?_)
  refine rn_ite (fun h4 => ?_) (fun h4 => bad (Or.inr (Or.inr (Int32.not_le.mp h4))))
  rw [show sp_plough R k m = _ from if_neg (fun q => q.elim (fun q => q.elim h1 h2) (fun q => q.elim h3 (fun q => Int32.not_le.mpr q h4)))]
  refine r_now hK 3 20 (by decide) ?_
  refine r_gI hK (i := 20) (c := 8) rfl ?_
  rw [hB.2.2.2.1.1]
  by_cases h6 : nn R 3 = 12
  · rw [if_pos h6]
    refine rn_f (by rw [h6]; decide) ?_
    refine rn_bind (k_refuse hK) (fun r hr => rn_some ?_)
    exact ko_mono (ko_lg h hr rfl) (Nat.le_succ c)
  rw [if_neg h6]
  refine rn_t (nI_lt (b := 12) (by omega) (by decide)) ?_
  obtain ⟨k, hk, rfl, -⟩ := st_of (x := k) (n := 4) (by decide) (fun q => q.elim h1 (fun q => h2 (Int32.not_le.mp (fun r => absurd (Int32.le_trans q r) (by decide)))))
  refine rn_bind (ci_change (by omega) h hR.1 hR.2.1 hKF.1) (fun s1 hs => ?_)
  obtain ⟨f1, g1, g2, g3, ow1, y1, -, c1⟩ := hs
  have hK1 := c1.1
  have hw1 := c1.2.1
  unfold f_X11_plough_53 f_X11_plough_60 f_X11_plough_65
  refine rn_eq (k_bodyOf (s := s1) (by omega) hK1) ?_
  have e1 : ES (IX z ow1 236 236) s1 ow1 (nb s1 (bcl k) (z + 1) (nI (ksp k)) (nI (krc k))) (va_up ow1 s1.1.1.2.1 0) := nb_es
  have hl : (lay (bcl k)).length = 3 := by
    rcases (show k = 0 ∨ k = 1 ∨ k = 2 ∨ k = 3 by omega) with rfl | rfl | rfl | rfl <;> rfl
  have hw5 : (nb s1 (bcl k) (z + 1) (nI (ksp k)) (nI (krc k))).1.1.2.2 = s1.1.1.2.2 + (lay (bcl k)).length := rfl
  have hn5 : (nb s1 (bcl k) (z + 1) (nI (ksp k)) (nI (krc k))).1.1.2.1 = s1.1.1.2.1 + 1 := rfl
  have j1 := cj_es (c' := c + 1) (P' := pot y1.1) (cj_of c1 g1 g2 g3) e1 (by omega) (by omega) (by omega)
  have hbo := nb_BO (s := s1) (ow := ow1) (k := k) (by omega) hK1
  have hB2 := bk_ix c1.2.2.1 (Or.inl rfl) hK1 hw1 e1 (by omega)
  have hP2 := pb_ix c1.2.2.2.2.2.1 hK1 hw1 e1 (by omega) (by omega)
  have hkk : nn (comR R (nI k) m (-1) (-1)) (9426 + 13 * nn R 3) = k := by
    have := com_at (R := R) (k := nI k) (m := m) (x := -1) (w := -1) 0 (by decide)
    unfold nn at this ⊢
    rw [show 9426 + 13 * (R 3).toNatClampNeg = 9426 + 13 * (R 3).toNatClampNeg + 0 from rfl, this, if_pos rfl]
    exact nI_clamp (by omega)
  refine rn_bind (k_enlist (s := nb s1 (bcl k) (z + 1) (nI (ksp k)) (nI (krc k))) (kd := nI k) (mi := m) (x := -1) (w := -1) hNf (wdn_of hR) (by omega) (Nat.le_refl _) j1.1 hB2 (pb_com (wp_two hR) hP2) ⟨hbo.1, hbo.2.1, by
    rw [hbo.2.2.1]
    rcases (show k = 0 ∨ k = 1 ∨ k = 2 ∨ k = 3 by omega) with rfl | rfl | rfl | rfl <;> simp [kcl]⟩ (Or.inl ⟨by rw [hkk]; omega, by rw [hkk]; exact hbo⟩)) (fun r hr => ?_)
  obtain ⟨r1, ow3, q3, j3, f3, b3, p3⟩ := hr
  rw [r1]
  have c3 := cj_ci j3 b3 p3
  refine rn_bind (k_answer c3.1) (fun r9 hr9 => rn_some ?_)
  have q4 := ci_lg c3 hr9.2
  exact ⟨hr9.1, ((f1.tr j1.2).tr f3).tr q4.2, ow3, _, q4.1⟩
theorem k_unp (hR : WF R) (hK : KS sh z) {L : Nat → Nat} (hT : TB sh d z ow 20 9 (nn R 3) (vP R) L) (hB : PB sh d z ow R) (hp : p < nn R 3) : f_X11_whyUnpaired N sh z (nI p) d = some (unf R p) := by
  have w := (hR.2.2.2.2.1 p hp).1
  obtain ⟨a, a1, a2, a3, -⟩ := k_body hK hB hp hR.1
  refine rn_val ?_
  unfold f_X11_whyUnpaired f_X11_whyUnpaired_32 unf
  rw [← z0 (z := z)]
  refine rn_t (ks_o hK 0 11 rfl) ?_
  refine r_gP hK 0 11 1 3 rfl (by decide) ?_
  refine rn_eq (k_isOut (Or.inl rfl) hR hK hT hp) ?_
  by_cases h1 : R (9426 + 13 * p + 2) = 1
  · rw [if_pos h1, if_pos h1]
    exact rn_f (by decide) (rn_some rfl)
  rw [if_neg h1, if_neg h1]
  refine rn_t rfl ?_
  refine r_gP hK 0 11 6 235 rfl (by decide) ?_
  refine rn_eq a1 ?_
  refine rn_eq a3 ?_
  by_cases h4 : nn R (9426 + 13 * p) = 4
  · rw [if_pos h4, if_pos (show R (9426 + 13 * p) = 4 by rw [w.1, h4]; rfl)]
    exact rn_f (by decide) (rn_some rfl)
  · rw [if_neg h4, if_neg (show ¬ R (9426 + 13 * p) = 4 from fun e => h4 (nI_inj (b := 4) (w.1.symm.trans e) (by omega) (by decide)))]
    exact rn_t rfl (rn_some rfl)
/-- a PAIR, made -/
def nb3 (s : AS) (lg a1 a2 : Nat) (sp rc : Int32) : AS := (((nb s 3 lg sp rc).1.1, (nb s 3 lg sp rc).1.2.1, (nb s 3 lg sp rc).1.2.2.1, up2 (up2 (nb s 3 lg sp rc).1.2.2.2 s.1.1.2.1 3 (some a1)) s.1.1.2.1 4 (some a2)), (nb s 3 lg sp rc).2)
theorem nb3_es {lg a1 a2 lo hi : Nat} {sp rc : Int32} : ES (IX z ow lo hi) s ow (nb3 s lg a1 a2 sp rc) (va_up ow s.1.1.2.1 0) := by
  have h := nb_es (z := z) (s := s) (ow := ow) (cl := 3) (lg := lg) (lo := lo) (hi := hi) (sp := sp) (rc := rc)
  refine ⟨h.1, h.2.1, fun b hb => ?_⟩
  have ne : b ≠ s.1.1.2.1 := by omega
  have q := h.2.2 b hb
  refine ⟨q.1, q.2.1, ?_, q.2.2.2.1, q.2.2.2.2⟩
  show up2 (up2 (nb s 3 lg sp rc).1.2.2.2 s.1.1.2.1 3 (some a1)) s.1.1.2.1 4 (some a2) b = _
  rw [up2_n ne, up2_n ne]
  exact q.2.2.1
theorem k_init3 {a1 a2 k1 k2 : Nat} (hk1 : k1 ≤ 3) (hk2 : k2 ≤ 3) (hK : KS s.1 z) (h1 : BO s.1 s.2 z ow a1 k1) (h2 : BO s.1 s.2 z ow a2 k2) : f_X3_init N s.1.1.2.1 (z + 1) a1 a2 (nObj s 3) = some (nb3 s (z + 1) a1 a2 (nI (min (ksp k1) (ksp k2))) (nI (krc k1 + krc k2))) ∧ BP (nb3 s (z + 1) a1 a2 (nI (min (ksp k1) (ksp k2))) (nI (krc k1 + krc k2))).1 (nb3 s (z + 1) a1 a2 (nI (min (ksp k1) (ksp k2))) (nI (krc k1 + krc k2))).2 z (va_up ow s.1.1.2.1 0) s.1.1.2.1 k1 k2 := by
  have hz : s.1.1.1 ≤ s.1.1.2.1 := by have := hK.1; have := hK.2.1; omega
  have ni := nb_isO (s := s) (cl := 3) hz (by decide)
  have ps : ES (IX z ow 236 236) s ow (nObj s 3) (va_up ow s.1.1.2.1 0) := push_es
  have b1 := bo_ix h1 ps (by decide)
  have b2 := bo_ix h2 ps (by decide)
  have iso : ∀ a k, k ≤ 3 → BO (nObj s 3).1 (nObj s 3).2 z (va_up ow s.1.1.2.1 0) a k → isO (nObj s 3).1 a 6 := fun a k hk hb => by
    refine ⟨hb.1, hb.2.1, ?_⟩
    rw [hb.2.2.1]
    rcases (show k = 0 ∨ k = 1 ∨ k = 2 ∨ k = 3 by omega) with rfl | rfl | rfl | rfl <;> simp [kcl]
  have i1 := iso a1 k1 hk1 b1
  have i2 := iso a2 k2 hk2 b2
  have hsp : ∀ k, ksp k < 2 ^ 31 := fun k => by unfold ksp; (repeat' split) <;> decide
  refine ⟨?_, ?_⟩
  · refine rn_val ?_
    unfold f_X3_init f_X3_init_25 f_X3_init_30 f_X3_init_35
    refine rn_t ni.2 ?_
    refine rn_eq (v := nI (ksp k1)) (by unfold gI; rw [if_pos i1, b1.2.2.2.2.1]) ?_
    refine rn_eq (v := nI (ksp k2)) (by unfold gI; rw [if_pos i2, b2.2.2.2.2.1]) ?_
    refine rn_eq (v := nI (krc k1)) (by unfold gI; rw [if_pos i1, b1.2.2.2.2.2.1]) ?_
    refine rn_eq (v := nI (krc k2)) (by unfold gI; rw [if_pos i2, b2.2.2.2.2.2.1]) ?_
    rw [o_min_nI (hsp k1) (hsp k2), nI_add]
    refine rn_eq (v := nb s 3 (z + 1) (nI (min (ksp k1) (ksp k2))) (nI (krc k1 + krc k2))) (x6_init ni.1) ?_
    refine rn_eq (v := ((((nb s 3 (z + 1) (nI (min (ksp k1) (ksp k2))) (nI (krc k1 + krc k2))).1.1, (nb s 3 (z + 1) (nI (min (ksp k1) (ksp k2))) (nI (krc k1 + krc k2))).1.2.1, (nb s 3 (z + 1) (nI (min (ksp k1) (ksp k2))) (nI (krc k1 + krc k2))).1.2.2.1, up2 (nb s 3 (z + 1) (nI (min (ksp k1) (ksp k2))) (nI (krc k1 + krc k2))).1.2.2.2 s.1.1.2.1 3 (some a1)), (nb s 3 (z + 1) (nI (min (ksp k1) (ksp k2))) (nI (krc k1 + krc k2))).2) : AS)) (if_pos ni.2) ?_
    exact rn_eq (v := nb3 s (z + 1) a1 a2 (nI (min (ksp k1) (ksp k2))) (nI (krc k1 + krc k2))) (if_pos ni.2) (rn_some rfl)
  · obtain ⟨w1, w2, w3, w4, w5, w6⟩ := nb_at (s := s) (cl := 3) (lg := z + 1) (sp := nI (min (ksp k1) (ksp k2))) (rc := nI (krc k1 + krc k2)) hz
    have e3 : ES (IX z ow 236 236) s ow (nb3 s (z + 1) a1 a2 (nI (min (ksp k1) (ksp k2))) (nI (krc k1 + krc k2))) (va_up ow s.1.1.2.1 0) := nb3_es
    refine ⟨w1, w2, w3, ?_, w5, w6, va_up_s, hK.2.1, a1, a2, ?_, ?_, bo_ix h1 e3 (by decide), bo_ix h2 e3 (by decide)⟩
    · show up2 (up2 (nb s 3 (z + 1) _ _).1.2.2.2 s.1.1.2.1 3 (some a1)) s.1.1.2.1 4 (some a2) s.1.1.2.1 0 = some (z + 1)
      rw [up2_s, va_up_n (by decide), up2_s, va_up_n (by decide)]
      exact w4
    · show up2 (up2 (nb s 3 (z + 1) _ _).1.2.2.2 s.1.1.2.1 3 (some a1)) s.1.1.2.1 4 (some a2) s.1.1.2.1 3 = some a1
      rw [up2_s, va_up_n (by decide), up2_s, va_up_s]
    · show up2 (up2 (nb s 3 (z + 1) _ _).1.2.2.2 s.1.1.2.1 3 (some a1)) s.1.1.2.1 4 (some a2) s.1.1.2.1 4 = some a2
      rw [up2_s, va_up_s]
theorem unf_0 (hR : WF R) (hp : p < nn R 3) (h : unf R p = 0) : nn R (9426 + 13 * p) ≤ 3 := by
  have w := (hR.2.2.2.2.1 p hp).1
  unfold unf at h
  by_cases h1 : R (9426 + 13 * p + 2) = 1
  · rw [if_pos h1] at h
    exact absurd h (by decide)
  rw [if_neg h1] at h
  by_cases h4 : R (9426 + 13 * p) = 4
  · rw [if_pos h4] at h
    exact absurd h (by decide)
  have : nn R (9426 + 13 * p) ≠ 4 := fun e => h4 (by rw [w.1, e]; rfl)
  omega
theorem k_pair {x x2 m : Int32} (hNf : 300 ≤ N) (h : CI s z ow R K u y c) (hR : WF R) (hKF : WF K) : Rn (f_X11_pair N z x x2 m s) (KO z R K u (c + 1) (sp_pair R x x2 m) s) := by
  have hK := h.1
  have hN := hR.1
  have n3 := hN.2.2.2.1.2
  have hB : BK s.1 s.2 z ow 3 R y.1 := h.2.2.1
  have bad : ((x < 0 ∨ nI (nn R 3) ≤ x) ∨ (x2 < 0 ∨ nI (nn R 3) ≤ x2)) ∨ x = x2 ∨ (m < 0 ∨ 10000 < m) → Rn (f_X11_pair_44 N z s) (KO z R K u (c + 1) (sp_pair R x x2 m) s) := fun hb => by
    rw [show sp_pair R x x2 m = _ from if_pos hb]
    unfold f_X11_pair_44
    refine rn_bind (k_refuse hK) (fun r hr => rn_some ?_)
    exact ko_mono (ko_lg h hr rfl) (Nat.le_succ c)
  unfold f_X11_pair
  rw [← z0 (z := z)]
  refine rn_t (ks_o hK 0 11 rfl) ?_
  rw [z0 (z := z)]
  refine r_now hK 3 20 (by decide) ?_
  refine rn_eq (tb_has (o := 20) (nc := 9) hK (by decide) hB.2.2.2.1) ?_
  refine rn_ite (fun h1 => bad (Or.inl (Or.inl (ite01.mp h1)))) (fun h1 => ?_)
  refine r_now hK 3 20 (by decide) ?_
  refine rn_eq (tb_has (o := 20) (nc := 9) hK (by decide) hB.2.2.2.1) ?_
  refine rn_ite (fun h2 => bad (Or.inl (Or.inr (ite01.mp h2)))) (fun h2 => ?_)
  refine rn_ite (fun h3 => bad (Or.inr (Or.inl h3))) (fun h3 => ?_)
  refine rn_ite (fun h4 => bad (Or.inr (Or.inr (Or.inl h4)))) (fun h4 => ?_)
  refine rn_ite (fun h5 => ?_) (fun h5 => bad (Or.inr (Or.inr (Or.inr (Int32.not_le.mp h5)))))
  have h1 : ¬ (x < 0 ∨ nI (nn R 3) ≤ x) := fun q => h1 (ite01.mpr q)
  have h2 : ¬ (x2 < 0 ∨ nI (nn R 3) ≤ x2) := fun q => h2 (ite01.mpr q)
  rw [show sp_pair R x x2 m = _ from if_neg (fun q => q.elim (fun q => q.elim h1 h2) (fun q => q.elim h3 (fun q => q.elim h4 (fun q => Int32.not_le.mpr q h5))))]
  obtain ⟨p, hp, rfl, e1⟩ := st_of (by omega) h1
  obtain ⟨q, hq, rfl, e2⟩ := st_of (by omega) h2
  have hpq : p ≠ q := fun e => h3 (by rw [e])
  rw [e1, e2]
  refine r_now hK 3 20 (by decide) ?_
  refine r_gI hK (i := 20) (c := 8) rfl ?_
  rw [hB.2.2.2.1.1]
  by_cases h6 : nn R 3 = 12
  · rw [if_pos h6]
    refine rn_f (by rw [h6]; decide) ?_
    refine rn_bind (k_refuse hK) (fun r hr => rn_some ?_)
    exact ko_mono (ko_lg h hr rfl) (Nat.le_succ c)
  rw [if_neg h6]
  refine rn_t (nI_lt (b := 12) (by omega) (by decide)) ?_
  refine rn_eq (k_unp hR hK hB.2.2.2.1 h.2.2.2.2.2.1 hp) ?_
  by_cases hu : unf R p = 0
  · refine rn_f (fun q => q hu) ?_
    refine rn_eq (k_unp hR hK hB.2.2.2.1 h.2.2.2.2.2.1 hq) ?_
    unfold f_X11_pair_92
    by_cases hv : unf R q = 0
    · refine rn_t hv ?_
      rw [if_pos hu, if_pos hv]
      have k1 := unf_0 hR hp hu
      have k2 := unf_0 hR hq hv
      refine rn_bind (ci_change (by omega) h hR.1 hR.2.1 hKF.1) (fun s1 hs => ?_)
      obtain ⟨f1, g1, g2, g3, ow1, y1, -, c1⟩ := hs
      have hK1 := c1.1
      have hw1 := c1.2.1
      unfold f_X11_pair_108
      rw [← z0 (z := z)]
      refine r_gP hK1 0 11 1 3 rfl (by decide) ?_
      refine rn_bind (k_sendOut (by omega) (wdn_of hR) hK1 hw1 c1.2.2.1 hp) (fun d1 hd1 => ?_)
      refine r_gP hK1 0 11 1 3 rfl (by decide) ?_
      have hR1 : WDn (lvR R p) := wdn_cg (wdn_of hR) (lvR_wn hN) (fun j _ hj => lvR_n (by omega))
      refine rn_bind (k_sendOut (by omega) hR1 hK1 hw1 hd1.2 (by rw [lvR_3]; exact hq)) (fun d2 hd2 => ?_)
      have hR2 : WDn (lvR (lvR R p) q) := wdn_cg hR1 (lvR_wn hR1.1) (fun j _ hj => lvR_n (by omega))
      have n2 : nn (lvR (lvR R p) q) 3 = nn R 3 := by rw [lvR_3, lvR_3]
      have f12 : FD (IX z ow1 20 21) s1.2 d2 := hd1.1.tr hd2.1
      have e12 : ES (IX z ow1 20 21) s1 ow1 (s1.1, d2) ow1 := FD.es (sh := s1.1) (d := s1.2) f12
      have j1 := cj_es (c' := c) (P' := pot y1.1) (cj_of c1 g1 g2 g3) e12 (by omega) (Nat.le_refl _) (Nat.le_refl _)
      have hP1 : PB s1.1 d2 z ow1 (lvR (lvR R p) q) := lvR_pb (lvR_pb (pb_ix c1.2.2.2.2.2.1 hK1 hw1 e12 (by omega) (by omega)))
      have kk : ∀ p', nn (lvR (lvR R p) q) (9426 + 13 * p') = nn R (9426 + 13 * p') := fun p' => by
        have l0 : ∀ R p, lvR R p (9426 + 13 * p') = R (9426 + 13 * p') := fun R p => by
          by_cases e : p' = p
          · subst e
            exact lvR_k (by omega) (by omega)
          · exact lvR_n (by omega)
        unfold nn
        rw [l0, l0]
      have row : ∀ p', p' < nn R 3 → nn R (9426 + 13 * p') ≤ 3 → ∃ a, d2.2.2.2 (z + 235) p' = some a ∧ BO s1.1 d2 z ow1 a (nn R (9426 + 13 * p')) := fun p' hp' h' => by
        obtain ⟨a, a1, a2⟩ := hP1 p' (by rw [n2]; exact hp')
        rw [kk] at a2
        rcases a2 with a2 | a2
        · exact ⟨a, a1, a2.2⟩
        · omega
      obtain ⟨a1, ra1, ba1⟩ := row p hp k1
      obtain ⟨a2, ra2, ba2⟩ := row q hq k2
      unfold f_X11_pair_129 f_X11_pair_149 f_X11_pair_154
      have ps : ES (IX z ow1 236 236) (s1.1, d2) ow1 (nObj (s1.1, d2) 3) (va_up ow1 s1.1.1.2.1 0) := push_es
      have hKn := KS.es (s := (s1.1, d2)) hK1 ps
      have r235 := es_row (s := (s1.1, d2)) hK1 hw1 ps (i := 235) (by decide) (by omega)
      refine r_gP hKn 0 11 0 1 rfl (by decide) ?_
      refine r_gP hKn 0 11 6 235 rfl (by decide) ?_
      refine rn_eq (q_aQ (ks_a hKn 235 6 12 rfl) p a1 rfl (by omega) (by decide) (by rw [r235.2.2.2]; exact ra1)) ?_
      refine r_gP hKn 0 11 6 235 rfl (by decide) ?_
      refine rn_eq (q_aQ (ks_a hKn 235 6 12 rfl) q a2 rfl (by omega) (by decide) (by rw [r235.2.2.2]; exact ra2)) ?_
      obtain ⟨i1, i2⟩ := k_init3 (N := N) (s := (s1.1, d2)) k1 k2 hK1 ba1 ba2
      refine rn_eq i1 ?_
      generalize hs4 : nb3 (s1.1, d2) (z + 1) a1 a2 (nI (min (ksp (nn R (9426 + 13 * p))) (ksp (nn R (9426 + 13 * q))))) (nI (krc (nn R (9426 + 13 * p)) + krc (nn R (9426 + 13 * q)))) = s4 at i2 ⊢
      have e4 : ES (IX z ow1 236 236) (s1.1, d2) ow1 s4 (va_up ow1 s1.1.1.2.1 0) := by rw [← hs4]; exact nb3_es
      have w4 : s4.1.1.2.2 = s1.1.1.2.2 + 5 := by rw [← hs4]; rfl
      have n4 : s4.1.1.2.1 = s1.1.1.2.1 + 1 := by rw [← hs4]; rfl
      have w4' : s4.1.1.2.2 = ((s1.1, d2) : AS).1.1.2.2 + 5 := w4
      have n4' : s4.1.1.2.1 = ((s1.1, d2) : AS).1.1.2.1 + 1 := n4
      have j2 := cj_es (c' := c + 1) (P' := pot y1.1) j1.1 e4 (by omega) (by omega) (by omega)
      have hB4 := bk_ix (s := (s1.1, d2)) hd2.2 (Or.inl rfl) hK1 hw1 e4 (by omega)
      have hP4 := pb_ix (s := (s1.1, d2)) hP1 hK1 hw1 e4 (by omega) (by omega)
      have ca : ∀ t, t < 13 → comR (lvR (lvR R p) q) 4 m (nI p) (nI q) (9426 + 13 * nn (lvR (lvR R p) q) 3 + t) = _ := fun t ht => com_at t ht
      have m0 : nn (comR (lvR (lvR R p) q) 4 m (nI p) (nI q)) (9426 + 13 * nn (lvR (lvR R p) q) 3) = 4 := by
        have := ca 0 (by decide)
        unfold nn at this ⊢
        exact (congrArg Int32.toNatClampNeg this).trans (show (4 : Int32).toNatClampNeg = 4 by decide)
      have m3 : nn (comR (lvR (lvR R p) q) 4 m (nI p) (nI q)) (9426 + 13 * nn (lvR (lvR R p) q) 3 + 3) = p := by
        have := ca 3 (by decide)
        unfold nn at this ⊢
        exact (congrArg Int32.toNatClampNeg this).trans (nI_clamp (by omega))
      have m4 : nn (comR (lvR (lvR R p) q) 4 m (nI p) (nI q)) (9426 + 13 * nn (lvR (lvR R p) q) 3 + 4) = q := by
        have := ca 4 (by decide)
        unfold nn at this ⊢
        exact (congrArg Int32.toNatClampNeg this).trans (nI_clamp (by omega))
      have mk : ∀ p', p' < nn R 3 → nn (comR (lvR (lvR R p) q) 4 m (nI p) (nI q)) (9426 + 13 * p') = nn R (9426 + 13 * p') := fun p' hp' => by
        rw [← kk p']
        unfold nn
        rw [com_n (by omega) (by rw [n2]; omega)]
      have hD : BD s4.1 s4.2 z (va_up ow1 s1.1.1.2.1 0) (comR (lvR (lvR R p) q) 4 m (nI p) (nI q)) (nn (lvR (lvR R p) q) 3) s1.1.1.2.1 := by
        refine Or.inr ⟨m0, ?_⟩
        rw [m3, m4, mk p hp, mk q hq]
        exact i2
      have l34 : ∀ p' t, t = 3 ∨ t = 4 → nn (lvR (lvR R p) q) (9426 + 13 * p' + t) = nn R (9426 + 13 * p' + t) := fun p' t ht => by
        have l0 : ∀ R p, lvR R p (9426 + 13 * p' + t) = R (9426 + 13 * p' + t) := fun R p => by
          by_cases e : p' = p
          · subst e
            exact lvR_k (by omega) (by omega)
          · exact lvR_n (by omega)
        unfold nn
        rw [l0, l0]
      refine rn_bind (k_enlist (s := s4) (kd := 4) (mi := m) (x := nI p) (w := nI q) hNf hR2 (by rw [n2]; omega) (by rw [n2]; exact Nat.le_refl _) j2.1 hB4 (pb_com (fun p' hp' h4 => by
        rw [kk] at h4
        rw [n2] at hp' ⊢
        rw [l34 p' 3 (Or.inl rfl), l34 p' 4 (Or.inr rfl)]
        exact wp_two hR p' hp' h4) hP4) ⟨i2.1, i2.2.1, by rw [i2.2.2.1]; simp⟩ hD) (fun r hr => ?_)
      obtain ⟨r1, ow3, q3, j3, f3, b3, p3⟩ := hr
      rw [r1]
      have c3 := cj_ci j3 b3 p3
      rw [z0 (z := z)]
      refine rn_bind (k_answer c3.1) (fun r9 hr9 => rn_some ?_)
      have q4 := ci_lg c3 hr9.2
      exact ⟨hr9.1.trans (by rw [n2]), (((f1.tr j1.2).tr j2.2).tr f3).tr q4.2, ow3, _, q4.1⟩
    · refine rn_f hv ?_
      rw [if_pos hu, if_neg hv]
      refine rn_bind (k_refuse hK) (fun r hr => rn_some ?_)
      exact ko_mono (ko_lg h hr rfl) (Nat.le_succ c)
  · refine rn_t hu ?_
    unfold f_X11_pair_92
    refine rn_f hu ?_
    rw [if_neg hu]
    refine rn_bind (k_refuse hK) (fun r hr => rn_some ?_)
    exact ko_mono (ko_lg h hr rfl) (Nat.le_succ c)
end PAI
