section ST2
variable {s s' : AS} {sh : Sh} {d d' : Dt} {z : Nat} {ow ow' : Nat → Nat} {R R' K : Nat → Int32} {u : Bool} {y : YL} {c N : Nat} {q q' : BL}
theorem es_fd {lo hi : Nat} (he : ES (IX z ow lo hi) s ow s' ow') (hd : FD (IX z ow' lo hi) s'.2 d') : ES (IX z ow lo hi) s ow (s'.1, d') ow' := he.tr (FD.es (sh := s'.1) (d := s'.2) hd) (fun a ha h => ix_old he ha h)
theorem smN_pot {L' : Nat → Nat} {q : BL} : pot (L', q.2) + smN q.1 9 = pot q + smN L' 9 := by
  unfold pot
  show smN L' 9 + smN q.2.1 3 + smN q.2.2.1 9 + smN q.2.2.2.1 4 + q.2.2.2.2 + smN q.1 9 = _
  omega
theorem r_now {β : Type} {Q : β → Prop} {g : Nat → Option β} (hK : KS sh z) (k v : Nat) (hv : (3, k, v) ∈ cPt) (kk : Rn (g (z + v)) Q) : Rn ((gP sh z 11 1).bind fun v1 => (gP sh v1 1 k).bind g) Q := by
  rw [← z0 (z := z)]
  refine r_gP hK 0 11 1 3 rfl (by decide) ?_
  exact r_gP hK 3 1 k v rfl hv kk
theorem l_le {l : Int32} : l ≤ 10000 ↔ ¬ 10000 < l := ⟨fun h q => Int32.not_le.mpr q h, fun h => Int32.not_lt.mp h⟩
theorem k_street {a b l w : Int32} (hNf : 30 ≤ N) (h : CI s z ow R K u y c) (hR : WF R) (hKF : WF K) : Rn (f_X11_street N z a b l w s) (KO z R K u c (sp_street R a b l w) s) := by
  have hK := h.1
  have n0 := hR.1.1.2
  have n1 := hR.1.2.1.2
  have ht4 : tck 4 9 = true := by decide
  have hB : BK s.1 s.2 z ow 3 R y.1 := h.2.2.1
  have bad : ((a < 0 ∨ nI (nn R 0) ≤ a) ∨ (b < 0 ∨ nI (nn R 0) ≤ b)) ∨ a = b ∨ (l < 1 ∨ 10000 < l) → Rn (f_X11_street_39 N z s) (KO z R K u c (sp_street R a b l w) s) := fun hb => by
    rw [show sp_street R a b l w = _ from if_pos hb]
    unfold f_X11_street_39
    refine rn_bind (k_refuse hK) (fun r hr => rn_some ?_)
    exact ko_lg h hr rfl
  unfold f_X11_street
  refine rn_t (ks_o hK 0 11 rfl) ?_
  refine r_gP hK 0 11 1 3 rfl (by decide) ?_
  refine rn_eq (k_hasCrossing hK hB.1 hR.1) ?_
  refine rn_ite (fun h1 => bad (Or.inl (Or.inl (ite01.mp h1)))) (fun h1 => ?_)
  refine r_gP hK 0 11 1 3 rfl (by decide) ?_
  refine rn_eq (k_hasCrossing hK hB.1 hR.1) ?_
  refine rn_ite (fun h2 => bad (Or.inl (Or.inr (ite01.mp h2)))) (fun h2 => ?_)
  refine rn_ite (fun h3 => bad (Or.inr (Or.inl h3))) (fun h3 => ?_)
  refine rn_ite (fun h4 => bad (Or.inr (Or.inr (Or.inl h4)))) (fun h4 => ?_)
  refine rn_ite (fun h5 => ?_) (fun h5 => bad (Or.inr (Or.inr (Or.inr (Decidable.of_not_not (fun r => h5 (l_le.mpr r)))))))
  have good : ¬ (((a < 0 ∨ nI (nn R 0) ≤ a) ∨ (b < 0 ∨ nI (nn R 0) ≤ b)) ∨ a = b ∨ (l < 1 ∨ 10000 < l)) := fun q => q.elim (fun q => q.elim (fun q => h1 (ite01.mpr q)) (fun q => h2 (ite01.mpr q))) (fun q => q.elim h3 (fun q => q.elim h4 (l_le.mp h5)))
  rw [show sp_street R a b l w = _ from if_neg good]
  refine r_now hK 1 4 (by decide) ?_
  refine r_gI hK (i := 4) (c := 8) rfl ?_
  rw [hB.2.1.1]
  refine rn_ite (fun h6 => ?_) (fun h6 => ?_)
  · have h7 : nn R 1 < 150 := (nI_ltI (b := 150) (by omega) (by decide)).mp h6
    rw [if_neg (by omega)]
    refine rn_bind (ci_change hNf h hR.1 hR.2.1 hKF.1) (fun s1 hs => ?_)
    obtain ⟨f1, g1, g2, g3, ow1, y1, -, c1⟩ := hs
    have hK1 := c1.1
    have hw1 := c1.2.1
    have hB1 : BK s1.1 s1.2 z ow1 3 R y1.1 := c1.2.2.1
    unfold f_X11_street_73
    refine r_now hK1 1 4 (by decide) ?_
    refine rn_bind (tb_add (s := s1) (by omega) ht4 (by omega) hK1 hw1 hB1.2.1) (fun r hr => ?_)
    obtain ⟨r1, ow2, L2, e2, t2, l2, p1, p2⟩ := hr
    rw [r1]
    have e2 : ES (IX z ow1 4 5) s1 ow1 r.2 ow2 := e2.mono (fun a _ ha => tx_ix ht4 hw1 ha)
    have hK2 : KS r.2.1 z := KS.es hK1 e2
    have hw2 : OWS ow2 z := OWS.es hw1 hK1 e2
    have mo : ∀ {d1 d2 : Dt}, FD (TX z ow2 4) d1 d2 → FD (IX z ow2 4 5) d1 d2 := fun h => h.mono (fun a ha => tx_ix ht4 hw2 ha)
    unfold f_X11_street_83
    refine r_now hK2 1 4 (by decide) ?_
    refine rn_bind (tb_put (o := 4) (nc := 9) (c := 3) hK2 hw2 ht4 t2 rfl (Nat.lt_succ_self _) rfl (by decide)) (fun d3 hd3 => ?_)
    refine r_now hK2 1 4 (by decide) ?_
    have fin : ∀ o : Int32, Rn (f_X11_street_119 N z a b l (nI (nn R 1)) (z + 4) (nI (nn R 1)) (5 : Int32) o (r.2.1, d3)) (KO z R K u c (nI (nn R 1), some (stR R a b l o)) s) := fun o => by
      unfold f_X11_street_119
      refine rn_bind (tb_put (o := 4) (nc := 9) (c := 5) hK2 hw2 ht4 hd3.1 rfl (Nat.lt_succ_self _) rfl (by decide)) (fun d5 hd5 => ?_)
      refine r_now hK2 1 4 (by decide) ?_
      refine rn_bind (tb_put (o := 4) (nc := 9) (c := 6) hK2 hw2 ht4 hd5.1 rfl (Nat.lt_succ_self _) rfl (by decide)) (fun d6 hd6 => ?_)
      refine r_now hK2 1 4 (by decide) ?_
      refine rn_bind (tb_put (o := 4) (nc := 9) (c := 7) hK2 hw2 ht4 hd6.1 rfl (Nat.lt_succ_self _) rfl (by decide)) (fun d7 hd7 => ?_)
      refine r_now hK2 1 4 (by decide) ?_
      refine rn_bind (tb_put (o := 4) (nc := 9) (c := 8) hK2 hw2 ht4 hd7.1 rfl (Nat.lt_succ_self _) rfl (by decide)) (fun d8 hd8 => ?_)
      refine rn_bind (k_answer hK2) (fun r9 hr9 => rn_some ?_)
      have ee : ES (IX z ow1 4 5) s1 ow1 (r.2.1, d8) ow2 := es_fd e2 ((((mo hd3.2).tr (mo hd5.2)).tr (mo hd6.2)).tr ((mo hd7.2).tr (mo hd8.2)))
      have hT : TB r.2.1 d8 z ow2 4 9 (nn (stR R a b l o) 1) (vS (stR R a b l o)) L2 := by
        rw [stR_n1 hR.1]
        refine tb_congr hd8.1 (fun c' i' hc' hi' => ?_)
        show stR R a b l o (16 + 9 * i' + c') = _
        by_cases ei : i' = nn R 1
        · subst ei
          have hc9 : c' = 0 ∨ c' = 1 ∨ c' = 2 ∨ c' = 3 ∨ c' = 4 ∨ c' = 5 ∨ c' = 6 ∨ c' = 7 ∨ c' = 8 := by omega
          rcases hc9 with rfl | rfl | rfl | rfl | rfl | rfl | rfl | rfl | rfl
          · rw [stR_0]
            simp
          · rw [stR_99]
            simp
          · rw [stR_2]
            simp
          · rw [stR_3]
            simp
          · rw [stR_4]
            simp
          · rw [stR_5]
            simp
          · rw [stR_6]
            simp
          · rw [stR_7]
            simp
          · rw [stR_8]
            simp
        · rw [stR_n (by omega) (by omega)]
          simp [ei]
          rfl
      have hbk : BK r.2.1 d8 z ow2 3 (stR R a b l o) (L2, y1.1.2) := by
        refine bk_S (s := s1) (s' := (r.2.1, d8)) hR (Or.inl rfl) hK1 hw1 hB1 ee hT (fun c9 hc9 => ?_) (fun k k1 k2 => stR_n k1 (by omega)) (fun t k ht hk => stR_n (by omega) (by omega))
        have := l2 c9 hc9
        have := hB1.2.2.2.2.2.2.2.1 c9 hc9
        omega
      have sp := smN_pot (L' := L2) (q := y1.1)
      have qn := ci_new2 c1 g1 g2 g3 (ee.mono (fun a _ ha => ix_mono ha (by omega) (by omega))) hbk (pb_congr c1.2.2.2.2.2.1 (stR_n (by omega) (by omega)) (fun j hj => stR_n (by omega) (by omega))) (by
        show r.2.1.1.2.2 + 2 * pot y1.1 ≤ s1.1.1.2.2 + 2 * pot (L2, y1.1.2)
        omega) (by
        show r.2.1.1.2.1 + pot y1.1 ≤ s1.1.1.2.1 + pot (L2, y1.1.2)
        omega)
      have q2 := ci_lg (s := (r.2.1, d8)) qn.1 hr9.2
      exact ⟨hr9.1, (f1.tr qn.2).tr q2.2, ow2, _, q2.1⟩
    refine rn_ite (fun h8 => ?_) (fun h8 => ?_)
    · rw [if_pos h8]
      exact fin 0
    · rw [if_neg h8]
      exact fin 1
  · have h7 : nn R 1 = 150 := by
      have : ¬ nn R 1 < 150 := fun q => h6 ((nI_ltI (b := 150) (by omega) (by decide)).mpr q)
      omega
    rw [if_pos h7]
    refine rn_bind (k_refuse hK) (fun r hr => rn_some ?_)
    exact ko_lg h hr rfl
end ST2
