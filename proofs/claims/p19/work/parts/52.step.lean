/-! steps of the class over its invariant -/
section CST
variable {s : AS} {z : Nat} {ow : Nat → Nat} {R K : Nat → Int32} {u : Bool} {y : YL} {c N : Nat}
/-- the reference's cells are left -/
def RFR (z : Nat) (s s' : AS) : Prop := ∀ i, 242 ≤ i → i < 264 → s'.2.1 (z + i) = s.2.1 (z + i) ∧ s'.2.2.1 (z + i) = s.2.2.1 (z + i) ∧ s'.2.2.2.1 (z + i) = s.2.2.2.1 (z + i) ∧ s'.2.2.2.2 (z + i) = s.2.2.2.2 (z + i)
theorem RFR.rf : RFR z s s := fun _ _ _ => ⟨rfl, rfl, rfl, rfl⟩
theorem RFR.tr {s1 s2 : AS} (h1 : RFR z s s1) (h2 : RFR z s1 s2) : RFR z s s2 := fun i q1 q2 => ⟨(h2 i q1 q2).1.trans (h1 i q1 q2).1, (h2 i q1 q2).2.1.trans (h1 i q1 q2).2.1, (h2 i q1 q2).2.2.1.trans (h1 i q1 q2).2.2.1, (h2 i q1 q2).2.2.2.trans (h1 i q1 q2).2.2.2⟩
set_option maxRecDepth 20000 in
theorem cO_ref {i : Nat} (h : 242 ≤ i) (h2 : i < 264) : (Nat.blt i 264 && Nat.beq (cOl.getD i 1) 0) = true := List.all_eq_true.mp (show (List.range' 242 22).all (fun i => Nat.blt i 264 && Nat.beq (cOl.getD i 1) 0) = true by decide +kernel) i (List.mem_range'_1.mpr ⟨by omega, by omega⟩)
theorem RFR.ix {s' : AS} {ow' : Nat → Nat} {lo hi : Nat} (hK : KS s.1 z) (hw : OWS ow z) (he : ES (IX z ow lo hi) s ow s' ow') (hx : hi < 242) : RFR z s s' := fun i q1 q2 => es_row hK hw he (cO_ref q1 q2) (by omega)
/-- what touches neither books nor ways nor the rest leaves all -/
theorem ci_fd {lo hi : Nat} {d' : Dt} (h : CI s z ow R K u y c) (hd : FD (IX z ow lo hi) s.2 d') (hx : (1 ≤ lo ∧ hi ≤ 2) ∨ (236 ≤ lo ∧ hi < 1000)) : CI (s.1, d') z ow R K u y c := by
  obtain ⟨hK, hw, h1, h2, h3, h4, h5, h6, h7, h8, h9, h10, h11⟩ := h
  have he : ES (IX z ow lo hi) s ow (s.1, d') ow := FD.es (sh := s.1) (d := s.2) hd
  have r0 := es_row hK hw he (i := 0) (by decide) (by omega)
  exact ⟨hK, hw, bk_ix h1 (Or.inl rfl) hK hw he (by omega), bk_ix h2 (Or.inr rfl) hK hw he (by omega), cs_ix h3 hK hw he (by omega), pb_ix h4 hK hw he (by omega) (by omega), pb_ix h5 hK hw he (by omega) (by omega), wy_ix h6 hK hw he (by omega), prl_ix h7 hK hw he (by omega), prt_ix h8 h3 hK hw he (by omega), by rw [r0.1]; exact h9, h10, h11.1, tln_eq h11.2 (congrFun (es_row hK hw he (i := 201) (by decide) (by omega)).1 7)⟩
theorem ci_lg {d' : Dt} (h : CI s z ow R K u y c) (hd : LG z s.2 d') : CI (s.1, d') z ow R K u y c ∧ RFR z s (s.1, d') := by
  have q := hd.ix h.2.1
  exact ⟨ci_fd h q (by omega), RFR.ix h.1 h.2.1 (FD.es (sh := s.1) (d := s.2) q) (by omega)⟩
/-- a CHANGE begins: R is kept -/
theorem ci_change (hNf : 30 ≤ N) (h : CI s z ow R K u y c) (hN : WN R) (hG : WG R) (hNK : WN K) : Rn (f_X11_change N z s) (fun s' => RFR z s s' ∧ s'.2.1 (z + 77) 5 = 0 ∧ s'.2.1 (z + 201) 4 = 0 ∧ s'.2.1 (z + 201) 7 = 0 ∧ ∃ ow' y', y'.1 = y.1 ∧ CI s' z ow' R R true y' c) := by
  obtain ⟨hK, hw, h1, h2, h3, h4, h5, h6, h7, h8, h9, h10, h11⟩ := id h
  refine rn_mono (k_change hNf hK hw hNK hN hG h1 h2) (fun s' hs => ?_)
  obtain ⟨ow1, q1, s1, e1, x1, x2, rfl, w1, m1⟩ := hs
  have hK1 := KS.es hK e1
  have hw1 := OWS.es hw hK e1
  have f1 := RFR.ix hK hw e1 (by omega)
  have c3 := cs_ix h3 hK hw e1 (by omega)
  have p4 := pb_ix h4 hK hw e1 (by omega) (by omega)
  have o0 := hw1 0 (by decide) (by decide)
  have o77 := hw1 77 (by decide) (by decide)
  have o201 := hw1 201 (by decide) (by decide)
  have d1 : FD (IX z ow1 0 0) s1.2 (wI s1.2 z 13 1) := by
    have := fd_ix (d := s1.2) (k := 13) (v := 1) (i := 0) (by decide) o0
    exact this
  have d2 : FD (IX z ow1 77 77) (wI s1.2 z 13 1) (wI (wI s1.2 z 13 1) (z + 77) 5 0) := fd_ix (by decide) o77
  have d3 : FD (IX z ow1 201 201) (wI (wI s1.2 z 13 1) (z + 77) 5 0) (wI (wI (wI (wI s1.2 z 13 1) (z + 77) 5 0) (z + 201) 4 0) (z + 201) 7 0) := (fd_ix (by decide) o201).tr (fd_ix (by decide) o201)
  have g1 := FD.es (sh := s1.1) (ow := ow1) d1
  have g2 := FD.es (sh := s1.1) (ow := ow1) d2
  have g3 := FD.es (sh := s1.1) (ow := ow1) d3
  have r0 : (wI (wI (wI (wI s1.2 z 13 1) (z + 77) 5 0) (z + 201) 4 0) (z + 201) 7 0).1 (z + 0) = va_up (s1.2.1 (z + 0)) 13 1 := by
    rw [wI_n (by omega), wI_n (by omega), wI_n (by omega)]
    exact wI_s
  have r77 : (wI (wI (wI (wI s1.2 z 13 1) (z + 77) 5 0) (z + 201) 4 0) (z + 201) 7 0).1 (z + 77) 5 = 0 := by
    rw [wI_n (by omega), wI_n (by omega), wI_s, va_up_s]
  have r201 : (wI (wI (wI (wI s1.2 z 13 1) (z + 77) 5 0) (z + 201) 4 0) (z + 201) 7 0).1 (z + 201) 4 = 0 ∧ (wI (wI (wI (wI s1.2 z 13 1) (z + 77) 5 0) (z + 201) 4 0) (z + 201) 7 0).1 (z + 201) 7 = 0 := by
    rw [wI_s, va_up_n (by decide), va_up_s, wI_s, va_up_s]
    exact ⟨rfl, rfl⟩
  have x1 := bk_ix (bk_ix (bk_ix x1 (Or.inr rfl) hK1 hw1 g1 (by omega)) (Or.inr rfl) hK1 hw1 g2 (by omega)) (Or.inr rfl) hK1 hw1 g3 (by omega)
  have x2 := bk_ix (bk_ix (bk_ix x2 (Or.inl rfl) hK1 hw1 g1 (by omega)) (Or.inl rfl) hK1 hw1 g2 (by omega)) (Or.inl rfl) hK1 hw1 g3 (by omega)
  have p4 := pb_ix (pb_ix (pb_ix p4 hK1 hw1 g1 (by omega) (by omega)) hK1 hw1 g2 (by omega) (by omega)) hK1 hw1 g3 (by omega) (by omega)
  have f2 := (RFR.ix hK1 hw1 g1 (by omega)).tr ((RFR.ix (s := (s1.1, wI s1.2 z 13 1)) hK1 hw1 g2 (by omega)).tr (RFR.ix (s := (s1.1, wI (wI s1.2 z 13 1) (z + 77) 5 0)) hK1 hw1 g3 (by omega)))
  refine ⟨f1.tr f2, r77, r201.1, r201.2, ow1, (y.1, q1, y.2.2), rfl, hK1, hw1, x2, x1, ?_, p4, p4, Or.inl r77, Or.inl r201.1, Or.inl r201.2, ?_, ?_, ?_, tln_0 r201.2⟩
  · obtain ⟨⟨k1, k2, k3⟩, ⟨⟨S, V, k4, k5⟩, k6⟩, k7, b, g, b1, b2, b3, b4, b5, b6, b7, b8, b9⟩ := c3
    have k4 := tb_ix (tb_ix (tb_ix k4 hK1 hw1 (by decide) g1 (by omega)) hK1 hw1 (by decide) g2 (by omega)) hK1 hw1 (by decide) g3 (by omega)
    have nb : ∀ i, i < 264 → ow1 (z + i) = 0 → b ≠ z + i := fun i _ h0 e => by
      rw [e, h0] at b2
      omega
    refine ⟨⟨k1, k2, k3⟩, ⟨⟨S, V, k4, k5⟩, k6⟩, k7, b, g, b1, b2, b3, b4, b5, b6, ?_, b8, fun i hi => ?_⟩
    · show (wI (wI (wI (wI s1.2 z 13 1) (z + 77) 5 0) (z + 201) 4 0) (z + 201) 7 0).1 (z + 0) 12 = nI g
      rw [r0, va_up_n (by decide)]
      exact b7
    · show fits .char (.int ((wI (wI (wI (wI s1.2 z 13 1) (z + 77) 5 0) (z + 201) 4 0) (z + 201) 7 0).1 b i)) = true
      rw [wI_n (nb 201 (by decide) o201), wI_n (nb 201 (by decide) o201), wI_n (nb 77 (by decide) o77), wI_n (a := z) (nb 0 (by decide) o0)]
      exact b9 i hi
  · show (wI (wI (wI (wI s1.2 z 13 1) (z + 77) 5 0) (z + 201) 4 0) (z + 201) 7 0).1 (z + 0) 13 = 1
    rw [r0, va_up_s]
  · show s1.1.1.2.2 ≤ 75638 + 2 * (pot y.1 + pot q1 + smN y.2.2.1 4 + y.2.2.2.1 + y.2.2.2.2) + 5 * c
    omega
  · have h11 := h11.1
    show s1.1.1.2.1 ≤ z + 264 + (pot y.1 + pot q1 + smN y.2.2.1 4 + y.2.2.2.1 + y.2.2.2.2) + c
    omega
end CST
