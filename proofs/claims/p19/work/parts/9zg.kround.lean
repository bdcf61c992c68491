/-! round() of the class -/
section CC2
variable {s : AS} {z : Nat} {ow : Nat → Nat} {R K : Nat → Int32} {u : Bool} {y : YL} {c N : Nat}
theorem ci_change2 (hNf : 30 ≤ N) (h : CI s z ow R K u y c) (hN : WN R) (hG : WG R) (hNK : WN K) : Rn (f_X11_change N z s) (fun s' => RFR z s s' ∧ s'.2.1 (z + 77) 5 = 0 ∧ s'.2.1 (z + 201) 4 = 0 ∧ s'.2.1 (z + 201) 7 = 0 ∧ ∃ ow' q1, CI s' z ow' R R true (y.1, q1, y.2.2) c ∧ ∀ S V, TB s.1 s.2 z ow 222 4 S V y.2.2.1 → TB s'.1 s'.2 z ow' 222 4 S V y.2.2.1) := by
  obtain ⟨hK, hw, h1, h2, h3, h4, h5, h6, h7, h8, h9, h10, h11⟩ := id h
  refine rn_mono (k_change hNf hK hw hNK hN hG h1 h2) (fun s' hs => ?_)
  obtain ⟨ow1, q1, s1, e1, x1, x2, rfl, w1, m1⟩ := hs
  have hK1 := KS.es hK e1
  have hw1 := OWS.es hw hK e1
  have f1 := RFR.ix hK hw e1 (by omega)
  have c3 := cs_ix h3 hK hw e1 (by omega)
  have p4 := pb_ix h4 hK hw e1 (by omega) (by omega)
  have o0 := hw1 0 (by decide) (by decide)
  have o77 := hw1 77 (by decide) (by decide)
  have o201 := hw1 201 (by decide) (by decide)
  have d1 : FD (IX z ow1 0 0) s1.2 (wI s1.2 z 13 1) := by
    have := fd_ix (d := s1.2) (k := 13) (v := 1) (i := 0) (by decide) o0
    exact this
  have d2 : FD (IX z ow1 77 77) (wI s1.2 z 13 1) (wI (wI s1.2 z 13 1) (z + 77) 5 0) := fd_ix (by decide) o77
  have d3 : FD (IX z ow1 201 201) (wI (wI s1.2 z 13 1) (z + 77) 5 0) (wI (wI (wI (wI s1.2 z 13 1) (z + 77) 5 0) (z + 201) 4 0) (z + 201) 7 0) := (fd_ix (by decide) o201).tr (fd_ix (by decide) o201)
  have g1 := FD.es (sh := s1.1) (ow := ow1) d1
  have g2 := FD.es (sh := s1.1) (ow := ow1) d2
  have g3 := FD.es (sh := s1.1) (ow := ow1) d3
  have r0 : (wI (wI (wI (wI s1.2 z 13 1) (z + 77) 5 0) (z + 201) 4 0) (z + 201) 7 0).1 (z + 0) = va_up (s1.2.1 (z + 0)) 13 1 := by
    rw [wI_n (by omega), wI_n (by omega), wI_n (by omega)]
    exact wI_s
  have r77 : (wI (wI (wI (wI s1.2 z 13 1) (z + 77) 5 0) (z + 201) 4 0) (z + 201) 7 0).1 (z + 77) 5 = 0 := by
    rw [wI_n (by omega), wI_n (by omega), wI_s, va_up_s]
  have r201 : (wI (wI (wI (wI s1.2 z 13 1) (z + 77) 5 0) (z + 201) 4 0) (z + 201) 7 0).1 (z + 201) 4 = 0 ∧ (wI (wI (wI (wI s1.2 z 13 1) (z + 77) 5 0) (z + 201) 4 0) (z + 201) 7 0).1 (z + 201) 7 = 0 := by
    rw [wI_s, va_up_n (by decide), va_up_s, wI_s, va_up_s]
    exact ⟨rfl, rfl⟩
  have x1 := bk_ix (bk_ix (bk_ix x1 (Or.inr rfl) hK1 hw1 g1 (by omega)) (Or.inr rfl) hK1 hw1 g2 (by omega)) (Or.inr rfl) hK1 hw1 g3 (by omega)
  have x2 := bk_ix (bk_ix (bk_ix x2 (Or.inl rfl) hK1 hw1 g1 (by omega)) (Or.inl rfl) hK1 hw1 g2 (by omega)) (Or.inl rfl) hK1 hw1 g3 (by omega)
  have p4 := pb_ix (pb_ix (pb_ix p4 hK1 hw1 g1 (by omega) (by omega)) hK1 hw1 g2 (by omega) (by omega)) hK1 hw1 g3 (by omega) (by omega)
  have f2 := (RFR.ix hK1 hw1 g1 (by omega)).tr ((RFR.ix (s := (s1.1, wI s1.2 z 13 1)) hK1 hw1 g2 (by omega)).tr (RFR.ix (s := (s1.1, wI (wI s1.2 z 13 1) (z + 77) 5 0)) hK1 hw1 g3 (by omega)))
  refine ⟨f1.tr f2, r77, r201.1, r201.2, ow1, q1, ⟨hK1, hw1, x2, x1, ?_, p4, p4, Or.inl r77, Or.inl r201.1, Or.inl r201.2, ?_, ?_, ?_, tln_0 r201.2⟩, fun S V ht => tb_ix (tb_ix (tb_ix (tb_ix ht hK hw (by decide) e1 (by omega)) hK1 hw1 (by decide) g1 (by omega)) hK1 hw1 (by decide) g2 (by omega)) hK1 hw1 (by decide) g3 (by omega)⟩
  · obtain ⟨⟨k1, k2, k3⟩, ⟨⟨S, V, k4, k5⟩, k6⟩, k7, b, g, b1, b2, b3, b4, b5, b6, b7, b8, b9⟩ := c3
    have k4 := tb_ix (tb_ix (tb_ix k4 hK1 hw1 (by decide) g1 (by omega)) hK1 hw1 (by decide) g2 (by omega)) hK1 hw1 (by decide) g3 (by omega)
    have nb : ∀ i, i < 264 → ow1 (z + i) = 0 → b ≠ z + i := fun i _ h0 e => by
      rw [e, h0] at b2
      omega
    refine ⟨⟨k1, k2, k3⟩, ⟨⟨S, V, k4, k5⟩, k6⟩, k7, b, g, b1, b2, b3, b4, b5, b6, ?_, b8, fun i hi => ?_⟩
    · show (wI (wI (wI (wI s1.2 z 13 1) (z + 77) 5 0) (z + 201) 4 0) (z + 201) 7 0).1 (z + 0) 12 = nI g
      rw [r0, va_up_n (by decide)]
      exact b7
    · show fits .char (.int ((wI (wI (wI (wI s1.2 z 13 1) (z + 77) 5 0) (z + 201) 4 0) (z + 201) 7 0).1 b i)) = true
      rw [wI_n (nb 201 (by decide) o201), wI_n (nb 201 (by decide) o201), wI_n (nb 77 (by decide) o77), wI_n (a := z) (nb 0 (by decide) o0)]
      exact b9 i hi
  · show (wI (wI (wI (wI s1.2 z 13 1) (z + 77) 5 0) (z + 201) 4 0) (z + 201) 7 0).1 (z + 0) 13 = 1
    rw [r0, va_up_s]
  · show s1.1.1.2.2 ≤ 75638 + 2 * (pot y.1 + pot q1 + smN y.2.2.1 4 + y.2.2.2.1 + y.2.2.2.2) + 5 * c
    omega
  · have h11 := h11.1
    show s1.1.1.2.1 ≤ z + 264 + (pot y.1 + pot q1 + smN y.2.2.1 4 + y.2.2.2.1 + y.2.2.2.2) + c
    omega
end CC2
/-- DRIVES along STREETS -/
def VL (R : Nat → Int32) (l : List (Nat × Nat × Nat)) : Prop := ∀ e, e ∈ l → e.1 < nn R 1 ∧ (eA R e.1 = e.2.1 ∨ eB R e.1 = e.2.1) ∧ e.2.2 ≤ 1
/-- R1, with the parts of the first PLOUGHS lost -/
def rdL (R1 : Nat → Int32) : Nat → (Nat → Int32)
  | 0 => R1
  | p + 1 => lpR (rdL R1 p) p
section KRD
variable {s s' s0 s1 : AS} {sh : Sh} {d d0 d' : Dt} {z : Nat} {ow ow' : Nat → Nat} {R R' R1 K : Nat → Int32} {u : Bool} {y : YL} {N n m k i j c p q x e v a b t cc : Nat} {T D L Lp : Nat → Nat} {l : List (Nat × Nat × Nat)} {w : BL}
theorem drA_vl : ∀ (k : Nat) (T : Nat → Nat) (c : Nat) (D : Nat → Nat), VL R (drA R k T c D)
  | 0, _, _, _ => fun e he => by cases he
  | k + 1, T, c, D => fun e he => by
    by_cases h : ∃ s, lvS R T c s
    · rw [show drA R (k + 1) T c D = _ from ite_p h] at he
      rcases List.mem_cons.mp he with q | q
      · have g := (lvN_ok h).1
        rw [q]
        refine ⟨g.1, g.2.2.1, ?_⟩
        show (if 0 < D (lvN R T c) then 1 else 0) ≤ 1
        split <;> omega
      · exact drA_vl k _ _ _ e q
    · rw [show drA R (k + 1) T c D = _ from ite_n h] at he
      cases he
theorem emL_vl (hW : WS R) (hN : WN R) : ∀ (k u : Nat), rk R b k u → u < 2 ^ 31 → VL R (emL R b k u)
  | 0, _, _, _ => fun e he => by cases he
  | k + 1, u, hr, hu => fun e he => by
    by_cases h : u = b
    · rw [show emL R b (k + 1) u = [] from if_pos h] at he
      cases he
    · rw [show emL R b (k + 1) u = _ from if_neg h] at he
      rcases hr with hr | ⟨-, hx, hr⟩
      · exact absurd hr h
      obtain ⟨h1, ⟨h2, h3, h4⟩, -⟩ := hx.1
      have n0 := hN.1.2
      rcases List.mem_cons.mp he with q | q
      · rw [q]
        obtain ⟨e7, a2, e8, b2, hne⟩ := ws_e hW hN h2
        refine ⟨h2, ?_, Nat.zero_le _⟩
        show eA R (nxt R b u).1 = u ∨ eB R (nxt R b u).1 = u
        rcases h4 with ⟨q1, -⟩ | ⟨-, q1, -⟩
        · exact Or.inl (nI_inj (e7.symm.trans q1) (by omega) hu)
        · exact Or.inr (nI_inj (e8.symm.trans q1) (by omega) hu)
      · exact emL_vl hW hN k _ hr (by omega) e q
theorem vl_app {l l' : List (Nat × Nat × Nat)} (h : VL R l) (h' : VL R l') : VL R (l ++ l') := fun e he => (List.mem_append.mp he).elim (h e) (h' e)
theorem nrE_vl (hW : WS R) (hN : WN R) (hc : c < nn R 0) (h : VL R l) : VL R (nrE R c l).2 := by
  have n0 := hN.1.2
  have nil : VL R [] := fun e he => by cases he
  unfold nrE
  by_cases h1 : ∃ n, dst R c 0 n
  · rw [ite_p h1]
    obtain ⟨n, h1⟩ := h1
    split
    · exact vl_app h (emL_vl hW hN 60 c (rk_60 hW hN h1) (by omega))
    · exact nil
  · rw [ite_n h1]
    exact nil
theorem nrF_vl (hW : WS R) (hN : WN R) : ∀ (m : Nat) (D : Nat → Nat) (c : Nat) (l : List (Nat × Nat × Nat)), c < nn R 0 → VL R l → VL R (nrF R m D c l).2
  | 0, _, c, l, hc, h => nrE_vl hW hN hc h
  | m + 1, D, c, l, hc, h => by
    have n0 := hN.1.2
    have nil : VL R [] := fun e he => by cases he
    by_cases h1 : ∃ t k, nrB R D c t k
    · rw [show nrF R (m + 1) D c l = _ from ite_p h1]
      obtain ⟨t, k, hb⟩ := h1
      have ex := nrX_eq hb
      obtain ⟨b1, b2, b3, ⟨n, b4⟩, b5⟩ := nrB_ld hW hN (t := (nrX R D c).1) (k := (nrX R D c).2) (by rw [ex]; exact hb)
      split
      · refine nrF_vl hW hN m _ _ _ b5 (vl_app (vl_app h (emL_vl hW hN 60 c (rk_60 hW hN b4) (by omega))) (fun e he => ?_))
        rw [List.mem_singleton.mp he]
        refine ⟨b2, ?_, Nat.le_refl _⟩
        unfold bgn
        split
        · exact Or.inl rfl
        · exact Or.inr rfl
      · exact nil
    · rw [show nrF R (m + 1) D c l = _ from ite_n h1]
      exact nil
theorem rdR_vl (hR : WF R) : VL R (rdR R).2 := by
  have nil : VL R [] := fun e he => by cases he
  unfold rdR
  by_cases hB : BW R
  · rw [ite_p hB]
    unfold pbR
    cases hj : joinF R 60 (T0 R) with
    | none => exact nil
    | some T' =>
      show VL R (if smN (tsP R T') (nn R 1) ≤ 2000 then ((0 : Int32), drA R 2000 (tsP R T') 0 (T0 R)) else (-3, [])).2
      split
      · exact drA_vl _ _ _ _
      · exact nil
  · rw [ite_n hB]
    have h0 : 0 < nn R 0 := by
      rcases Nat.eq_zero_or_pos (nn R 0) with q | q
      · refine absurd (fun s hs _ => ?_) hB
        obtain ⟨-, a2, -⟩ := ws_e hR.2.2.1 hR.1 hs
        omega
      · exact q
    exact nrF_vl hR.2.2.1 hR.1 _ _ _ _ h0 nil
theorem getD_mem {l : List (Nat × Nat × Nat)} (h : i < l.length) : l.getD i (0, 0, 0) ∈ l := by
  rw [List.getD_eq_getElem?_getD, List.getElem?_eq_getElem h]
  exact List.getElem_mem h
/-- the books behind a ROUND are well made -/
theorem wf_rnd (hR : WF R) (hl : VL R l) (hn : l.length ≤ 2000) (h : RND R l R') : WF R' := by
  obtain ⟨⟨n0, n1, n2, n3, n4⟩, hG, hW, hC, hP, hD⟩ := hR
  obtain ⟨r1, r4, rd, rp⟩ := h
  have e : ∀ k, k < 4 ∨ (8 < k ∧ k < 9426) → nn R' k = nn R k := fun k hk => by unfold nn; rw [r1 k hk]
  have e4 : nn R' 4 = l.length := by unfold nn; rw [r4, nI_clamp (by omega)]
  have e0 := e 0 (by omega)
  have e1 := e 1 (by omega)
  have e2 := e 2 (by omega)
  have e3 := e 3 (by omega)
  have eP : ∀ p, p < nn R 3 → ∀ x, x < 5 → R' (9426 + 13 * p + x) = R (9426 + 13 * p + x) := fun p hp x hx => by
    rw [rp p hp x (by omega), if_neg (by omega)]
  have eP0 : ∀ p, p < nn R 3 → R' (9426 + 13 * p) = R (9426 + 13 * p) := fun p hp => eP p hp 0 (by omega)
  have enP : ∀ p, p < nn R 3 → ∀ x, x < 5 → nn R' (9426 + 13 * p + x) = nn R (9426 + 13 * p + x) := fun p hp x hx => by unfold nn; rw [eP p hp x hx]
  have enP0 : ∀ p, p < nn R 3 → nn R' (9426 + 13 * p) = nn R (9426 + 13 * p) := fun p hp => enP p hp 0 (by omega)
  refine ⟨⟨?_, ?_, ?_, ?_, ?_⟩, fun g hg => ?_, fun t ht => ?_, ⟨fun g hg => ?_, fun k hk => ?_⟩, fun p hp => ?_, fun i hi => ?_⟩
  · rw [r1 0 (by omega), e0]
    exact n0
  · rw [r1 1 (by omega), e1]
    exact n1
  · rw [r1 2 (by omega), e2]
    exact n2
  · rw [r1 3 (by omega), e3]
    exact n3
  · rw [r4, e4]
    exact ⟨rfl, hn⟩
  · rw [e2] at hg
    have := n2.2
    rw [r1 _ (by omega), e _ (by omega)]
    exact hG g hg
  · rw [e1] at ht
    have := n1.2
    have q : ∀ x, x < 9 → R' (16 + 9 * t + x) = R (16 + 9 * t + x) := fun x hx => r1 _ (by omega)
    have qn : ∀ x, x < 9 → nn R' (16 + 9 * t + x) = nn R (16 + 9 * t + x) := fun x hx => by unfold nn; rw [q x hx]
    have ql : sln R' t = sln R t := qn 6 (by omega)
    rw [q 7 (by omega), q 8 (by omega), q 6 (by omega), q 5 (by omega), q 4 (by omega), q 3 (by omega), qn 3 (by omega), ql, e0]
    exact hW t ht
  · rw [e2] at hg
    have := n2.2
    rw [r1 _ (by omega), r1 _ (by omega), e0]
    exact hC.1 g hg
  · have hk2 : inC R k := by
      obtain ⟨g, hh, q1, q2, q3⟩ := hk
      rw [e2] at q1
      have := n2.2
      rw [e _ (by omega)] at q2
      exact ⟨g, hh, q1, q2, q3⟩
    have hkb : k < 4000 := by
      obtain ⟨g, hh, q1, q2, q3⟩ := hk2
      have := (hG g q1).2
      have := n2.2
      omega
    rw [r1 _ (by omega)]
    exact hC.2 k hk2
  · rw [e3] at hp
    obtain ⟨p1, p2, p3, p4, -⟩ := hP p hp
    rw [eP0 p hp, enP0 p hp]
    refine ⟨p1, fun h4 => ?_, ?_, ?_, ⟨0, 0, 0, ?_, ?_, ?_, Nat.le_refl _, Nat.zero_le _⟩⟩
    · obtain ⟨a, b, ha, hb, q1, q2, q3, q4⟩ := p2 h4
      refine ⟨a, b, by rw [e3]; exact ha, by rw [e3]; exact hb, by rw [eP p hp 3 (by omega)]; exact q1, by rw [eP p hp 4 (by omega)]; exact q2, by rw [enP0 a ha]; exact q3, by rw [enP0 b hb]; exact q4⟩
    · rw [eP p hp 1 (by omega), enP p hp 1 (by omega)]
      exact p3
    · rw [eP p hp 2 (by omega)]
      exact p4
    · rw [rp p hp 6 (by omega), if_pos (by omega)]
      rfl
    · rw [rp p hp 7 (by omega), if_pos (by omega)]
      rfl
    · rw [rp p hp 8 (by omega), if_pos (by omega)]
      rfl
  · rw [e4] at hi
    have n0' := n0.2
    have n1' := n1.2
    obtain ⟨d1, d2, d3⟩ := rd i hi
    obtain ⟨v1, v2, v3⟩ := hl _ (getD_mem hi)
    obtain ⟨e7, a2, e8, b2, hne⟩ := ws_e hW ⟨n0, n1, n2, n3, n4⟩ v1
    refine ⟨_, _, by rw [e1]; exact v1, d1, d2, ?_, ?_⟩
    · rw [r1 _ (by omega), r1 _ (by omega), e7, e8]
      rcases v2 with q | q
      · exact Or.inl (by rw [q])
      · exact Or.inr (by rw [q])
    · rw [d3]
      rcases (show (l.getD i (0, 0, 0)).2.2 = 0 ∨ (l.getD i (0, 0, 0)).2.2 = 1 by omega) with q | q
      · exact Or.inl (by rw [q]; rfl)
      · exact Or.inr (by rw [q]; rfl)
theorem wo_rnd (h3 : nn R' 3 = nn R 3) (h : RND R l R') : WO R' := fun p hp _ x h5 hx => by
  rw [h3] at hp
  rw [h.2.2.2 p hp x hx, if_pos h5]
end KRD
