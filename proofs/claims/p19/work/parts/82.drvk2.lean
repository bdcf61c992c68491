section DK2
variable {s s' : AS} {sh : Sh} {d d0 d' : Dt} {z : Nat} {ow ow' : Nat → Nat} {R K : Nat → Int32} {N c t k : Nat} {T D : Nat → Nat} {l : List (Nat × Nat × Nat)} {Lp L : Nat → Nat} {M : Nat → Prop}
theorem wx_es {lo hi : Nat} (h : WX s.1 s.2 z ow R L M) (hN : WN R) (hK : KS s.1 z) (hw : OWS ow z) (he : ES (IX z ow lo hi) s ow s' ow') (hlo : 200 < lo) : WX s'.1 s'.2 z ow' R L M := by
  obtain ⟨h1, h2, h3, h4⟩ := h
  have n0 := hN.1.2
  have r : ∀ i, 77 ≤ i → i ≤ 200 → _ := fun i a b => es_row hK hw he (i := i) (cO_ways a (by omega)) (by omega)
  refine ⟨⟨fun c hc => ?_, fun c hc => ?_⟩, tb_ix h2 hK hw (by decide) he (by omega), ⟨fun u v hu hv => ?_, fun u v hv hu => ?_⟩, fun b hb => ⟨(h4 b hb).1, fun a ha => ?_⟩⟩
  · rw [(r 78 (by omega) (by omega)).2.2.2]
    exact h1.1 c hc
  · rw [(r 140 (by omega) (by omega)).2.2.2]
    exact h1.2 c hc
  · rw [(r (79 + u) (by omega) (by omega)).1, (r 139 (by omega) (by omega)).2.1]
    exact h3.1 u v hu hv
  · rw [(r 139 (by omega) (by omega)).2.1]
    exact h3.2 u v hv hu
  · have := (h4 b hb).1
    rw [(r (141 + b) (by omega) (by omega)).1]
    exact (h4 b hb).2 a ha
theorem PL.rows {d' : Dt} (h : PL d z R T) (h1 : d'.1 (z + 221) 8 = d.1 (z + 221) 8) (h2 : d'.1 (z + 230) = d.1 (z + 230)) (h3 : d'.1 (z + 231) = d.1 (z + 231)) (h4 : d'.1 (z + 232) = d.1 (z + 232)) : PL d' z R T := by
  unfold PL
  rw [h1, h2, h3, h4]
  exact h
set_option maxRecDepth 20000 in
theorem cO_pk {i : Nat} (h : 221 ≤ i) (h2 : i ≤ 234) (h3 : i < 224 ∨ 228 ≤ i) : (Nat.blt i 264 && Nat.beq (cOl.getD i 1) 0) = true := by
  have := List.all_eq_true.mp (show ([221, 222, 223, 228, 229, 230, 231, 232, 233, 234] : List Nat).all (fun i => Nat.blt i 264 && Nat.beq (cOl.getD i 1) 0) = true by decide +kernel) i (by
    have : i = 221 ∨ i = 222 ∨ i = 223 ∨ i = 228 ∨ i = 229 ∨ i = 230 ∨ i = 231 ∨ i = 232 ∨ i = 233 ∨ i = 234 := by omega
    simp only [List.mem_cons, List.not_mem_nil, or_false]
    exact this)
  exact this
theorem vL_app {x : Nat × Nat × Nat} {c' i' : Nat} (hi : i' < l.length) : vL R (l ++ [x]) c' i' = vL R l c' i' := by
  unfold vL
  rw [getD_app hi]
theorem k_addDrive {v : Nat} (hv : v ≤ 1) (hvD : v = 1 → 0 < D t) (hN2 : 300 ≤ N) (hN : WN R) (hW : WS R) (ht : t < nn R 1) (hc : c < 60) (hl : l.length ≤ 2000) (h : KP s z ow R T D c l Lp L M) : Rn (f_X5_addDrive N (z + 221) (nI t) (nI v) s) (fun r => (l.length = 2000 ∧ r = (-3, s)) ∨ (l.length < 2000 ∧ r.1 = 0 ∧ ∃ ow' Lp', ES (IX z ow 221 234) s ow r.2 ow' ∧ KP r.2 z ow' R T (if v = 0 then D else dec1 D t) (oth R t c) (l ++ [(t, c, v)]) Lp' L M ∧ r.2.1.1.2.2 + 2 * smN Lp 4 ≤ s.1.1.2.2 + 2 * smN Lp' 4 ∧ r.2.1.1.2.1 + smN Lp 4 ≤ s.1.1.2.1 + smN Lp' 4)) := by
  obtain ⟨hK, hw, hP, hpl, hD, hT, hLp, hX⟩ := id h
  have n0 := hN.1.2
  have n1 := hN.2.1.2
  have hk : tck 222 4 = true := by decide
  obtain ⟨e7, a2, e8, b2, hne⟩ := ws_e hW hN ht
  obtain ⟨pa, pb, pt, pt2⟩ := hP.2 t ht
  have ho := oth_lt (c := c) hW hN ht
  unfold f_X5_addDrive
  refine rn_t (ks_o hK 221 5 rfl) ?_
  refine r_gP hK 221 5 3 222 rfl (by decide) ?_
  refine r_gI hK (i := 222) (c := 8) rfl ?_
  rw [hT.1]
  by_cases hlt : l.length < 2000
  · refine rn_t (nI_lt (b := 2000) hlt (by decide)) ?_
    have h44 : Rn (f_X5_addDrive_44 N (z + 221) (nI t) (nI v) (nI (oth R t c)) s) (fun r => (l.length = 2000 ∧ r = (-3, s)) ∨ (l.length < 2000 ∧ r.1 = 0 ∧ ∃ ow' Lp', ES (IX z ow 221 234) s ow r.2 ow' ∧ KP r.2 z ow' R T (if v = 0 then D else dec1 D t) (oth R t c) (l ++ [(t, c, v)]) Lp' L M ∧ r.2.1.1.2.2 + 2 * smN Lp 4 ≤ s.1.1.2.2 + 2 * smN Lp' 4 ∧ r.2.1.1.2.1 + smN Lp 4 ≤ s.1.1.2.1 + smN Lp' 4)) := by
      unfold f_X5_addDrive_44
      refine r_gP hK 221 5 3 222 rfl (by decide) ?_
      refine rn_bind (tb_add (s := s) (by omega) hk (by omega) hK hw hT) (fun r hr => ?_)
      obtain ⟨r1, ow2, L2, e2, t2, l2, p1, p2⟩ := hr
      rw [r1]
      have e2 : ES (IX z ow 222 223) s ow r.2 ow2 := e2.mono (fun a _ ha => tx_ix hk hw ha)
      have hK2 : KS r.2.1 z := KS.es hK e2
      have hw2 : OWS ow2 z := OWS.es hw hK e2
      have er : ∀ i, 221 ≤ i → i ≤ 234 → i < 222 ∨ 228 ≤ i → r.2.2.1 (z + i) = s.2.1 (z + i) := fun i q1 q2 q3 => (es_row hK hw e2 (i := i) (cO_pk q1 q2 (by omega)) (by omega)).1
      have hX2 := wx_es hX hN hK hw e2 (by omega)
      have hP2 : PL r.2.2 z R T := hP.rows (by rw [er 221 (by omega) (by omega) (by omega)]) (er 230 (by omega) (by omega) (by omega)) (er 231 (by omega) (by omega) (by omega)) (er 232 (by omega) (by omega) (by omega))
      have mo : ∀ {d1 d2 : Dt}, FD (TX z ow2 222) d1 d2 → FD (IX z ow2 222 223) d1 d2 := fun h => h.mono (fun a ha => tx_ix hk hw2 ha)
      unfold f_X5_addDrive_52
      refine r_gP hK2 221 5 3 222 rfl (by decide) ?_
      refine rn_bind (tb_put (o := 222) (nc := 4) (c := 0) hK2 hw2 hk t2 rfl (Nat.lt_succ_self _) rfl (by decide)) (fun d1 hd1 => ?_)
      refine r_gP hK2 221 5 3 222 rfl (by decide) ?_
      refine r_gI hK2 (i := 221) (c := 5) rfl ?_
      have o221 := hw2 221 (by decide) (by decide)
      have fd1 := mo hd1.2
      rw [(fd1 (z + 221) (nix o221 (by decide) (by omega))).1, er 221 (by omega) (by omega) (by omega), hpl]
      refine rn_bind (tb_put (o := 222) (nc := 4) (c := 1) hK2 hw2 hk hd1.1 rfl (Nat.lt_succ_self _) rfl (by decide)) (fun d2 hd2 => ?_)
      refine r_gP hK2 221 5 3 222 rfl (by decide) ?_
      refine rn_bind (tb_put (o := 222) (nc := 4) (c := 2) hK2 hw2 hk hd2.1 rfl (Nat.lt_succ_self _) rfl (by decide)) (fun d3 hd3 => ?_)
      refine r_gP hK2 221 5 3 222 rfl (by decide) ?_
      have fd3 : FD (IX z ow2 222 223) r.2.2 d3 := (fd1.tr (mo hd2.2)).tr (mo hd3.2)
      have f106 : Rn (f_X5_addDrive_106 N (z + 221) (nI t) (nI v) (nI (oth R t c)) (z + 222) (nI l.length) (3 : Int32) (nI v) (r.2.1, d3)) (fun r => (l.length = 2000 ∧ r = (-3, s)) ∨ (l.length < 2000 ∧ r.1 = 0 ∧ ∃ ow' Lp', ES (IX z ow 221 234) s ow r.2 ow' ∧ KP r.2 z ow' R T (if v = 0 then D else dec1 D t) (oth R t c) (l ++ [(t, c, v)]) Lp' L M ∧ r.2.1.1.2.2 + 2 * smN Lp 4 ≤ s.1.1.2.2 + 2 * smN Lp' 4 ∧ r.2.1.1.2.1 + smN Lp 4 ≤ s.1.1.2.1 + smN Lp' 4)) := by
        unfold f_X5_addDrive_106
        refine rn_bind (tb_put (o := 222) (nc := 4) (c := 3) hK2 hw2 hk hd3.1 rfl (Nat.lt_succ_self _) rfl (by decide)) (fun d4 hd4 => ?_)
        have fd4 : FD (IX z ow2 222 223) r.2.2 d4 := fd3.tr (mo hd4.2)
        have es4 : ES (IX z ow 222 223) s ow (r.2.1, d4) ow2 := es_fd e2 fd4
        have er4 : ∀ i, 221 ≤ i → i ≤ 234 → i < 222 ∨ 228 ≤ i → d4.1 (z + i) = s.2.1 (z + i) := fun i q1 q2 q3 => (es_row hK hw es4 (i := i) (cO_pk q1 q2 (by omega)) (by omega)).1
        have hX4 : WX r.2.1 d4 z ow2 R L M := wx_es (s' := (r.2.1, d4)) hX hN hK hw es4 (by omega)
        have hT4 : TB r.2.1 d4 z ow2 222 4 (l ++ [(t, c, v)]).length (vL R (l ++ [(t, c, v)])) L2 := by
          rw [show (l ++ [(t, c, v)]).length = l.length + 1 by simp]
          refine tb_congr hd4.1 (fun c' i' hc' hi' => ?_)
          by_cases ei : i' = l.length
          · subst ei
            unfold vL
            rw [getD_last]
            have hc9 : c' = 0 ∨ c' = 1 ∨ c' = 2 ∨ c' = 3 := by omega
            rcases hc9 with rfl | rfl | rfl | rfl <;> simp
          · rw [vL_app (by omega)]
            simp [ei]
        have hL2 : ∀ c9, c9 < 4 → L2 c9 ≤ 4000 := fun c9 hc9 => by
          have := l2 c9 hc9
          have := hLp c9 hc9
          omega
        refine r_gP hK2 221 5 4 228 rfl (by decide) ?_
        refine rn_eq (q_aT (ks_a hK2 228 0 7 rfl) 1 rfl (by decide) (by decide)) ?_
        refine r_gP hK2 221 5 0 3 rfl (by decide) ?_
        refine r_gP hK2 3 1 1 4 rfl (by decide) ?_
        refine rn_eq (tb_get (o := 4) (nc := 9) (c := 6) hK2 (by decide) hX4.2.1 rfl ht rfl (by decide)) ?_
        refine rn_eq (q_sI (ks_a hK2 228 0 7 rfl) 1 rfl (by decide) (by decide)) ?_
        -- the end: the place
        have fin : ∀ (d5 : Dt) (D' : Nat → Nat), d5.2 = d4.2 → (∀ a, a ≠ z + 228 → a ≠ z + 233 → d5.1 a = d4.1 a) → (∀ x, x < nn R 1 → d5.1 (z + 233) x = nI (D' x) ∧ D' x < 2 ^ 30) → D' = (if v = 0 then D else dec1 D t) → Rn (f_X5_addDrive_155 N (z + 221) (nI (oth R t c)) (r.2.1, d5)) (fun r => (l.length = 2000 ∧ r = (-3, s)) ∨ (l.length < 2000 ∧ r.1 = 0 ∧ ∃ ow' Lp', ES (IX z ow 221 234) s ow r.2 ow' ∧ KP r.2 z ow' R T (if v = 0 then D else dec1 D t) (oth R t c) (l ++ [(t, c, v)]) Lp' L M ∧ r.2.1.1.2.2 + 2 * smN Lp 4 ≤ s.1.1.2.2 + 2 * smN Lp' 4 ∧ r.2.1.1.2.1 + smN Lp 4 ≤ s.1.1.2.1 + smN Lp' 4)) := fun d5 D' q1 q2 q3 q4 => by
          unfold f_X5_addDrive_155
          refine r_pI hK2 (i := 221) (c := 5) rfl ?_
          have o228 := hw2 228 (by decide) (by decide)
          have o233 := hw2 233 (by decide) (by decide)
          have fd5 : FD (IX z ow2 221 234) d4 (wI d5 (z + 221) 12 (nI (oth R t c))) := fun a ha => by
            have x1 : a ≠ z + 221 := fun e => ha (by rw [e]; unfold IX; rw [onr_s o221 (by decide)]; omega)
            have x2 : a ≠ z + 228 := fun e => ha (by rw [e]; unfold IX; rw [onr_s o228 (by decide)]; omega)
            have x3 : a ≠ z + 233 := fun e => ha (by rw [e]; unfold IX; rw [onr_s o233 (by decide)]; omega)
            refine ⟨by rw [wI_n x1]; exact q2 a x2 x3, ?_, ?_, ?_⟩
            · show d5.2.1 a = d4.2.1 a
              rw [q1]
            · show d5.2.2.1 a = d4.2.2.1 a
              rw [q1]
            · show d5.2.2.2 a = d4.2.2.2 a
              rw [q1]
          have es4b : ES (IX z ow 221 234) s ow (r.2.1, d4) ow2 := es4.mono (fun a _ ha => ix_mono ha (by omega) (by omega))
          have es5 : ES (IX z ow 221 234) s ow (r.2.1, wI d5 (z + 221) 12 (nI (oth R t c))) ow2 := es_fd (s' := (r.2.1, d4)) es4b fd5
          refine rn_some (Or.inr ⟨hlt, rfl, ow2, L2, es5, ⟨hK2, hw2, ?_, ?_, fun x hx => ?_, ?_, hL2, ?_⟩, p1, p2⟩)
          · refine hP.rows (d' := wI d5 (z + 221) 12 (nI (oth R t c))) ?_ ?_ ?_ ?_
            · rw [wI_s, va_up_n (by decide), q2 (z + 221) (by omega) (by omega), er4 221 (by omega) (by omega) (by omega)]
            · rw [wI_n (by omega), q2 (z + 230) (by omega) (by omega), er4 230 (by omega) (by omega) (by omega)]
            · rw [wI_n (by omega), q2 (z + 231) (by omega) (by omega), er4 231 (by omega) (by omega) (by omega)]
            · rw [wI_n (by omega), q2 (z + 232) (by omega) (by omega), er4 232 (by omega) (by omega) (by omega)]
          · show (wI d5 (z + 221) 12 (nI (oth R t c))).1 (z + 221) 12 = _
            rw [wI_s, va_up_s]
          · show (wI d5 (z + 221) 12 (nI (oth R t c))).1 (z + 233) x = _ ∧ _
            rw [wI_n (by omega), ← q4]
            exact q3 x hx
          · have fa : FD (IX z ow2 228 234) d4 d5 := fun a ha => by
              have x2 : a ≠ z + 228 := fun e => ha (by rw [e]; unfold IX; rw [onr_s o228 (by decide)]; omega)
              have x3 : a ≠ z + 233 := fun e => ha (by rw [e]; unfold IX; rw [onr_s o233 (by decide)]; omega)
              exact ⟨q2 a x2 x3, by rw [q1], by rw [q1], by rw [q1]⟩
            have ta : TB r.2.1 d5 z ow2 222 4 (l ++ [(t, c, v)]).length (vL R (l ++ [(t, c, v)])) L2 := tb_ix (s := (r.2.1, d4)) (s' := (r.2.1, d5)) hT4 hK2 hw2 hk fa.es (by omega)
            exact tb_ix (s := (r.2.1, d5)) (s' := (r.2.1, wI d5 (z + 221) 12 (nI (oth R t c)))) ta hK2 hw2 hk ((fd_ix (by decide) o221).es) (by omega)
          · exact wx_es (s' := (r.2.1, wI d5 (z + 221) 12 (nI (oth R t c)))) hX hN hK hw es5 (by omega)
        have D4 : ∀ x, x < nn R 1 → d4.1 (z + 233) x = nI (D x) ∧ D x < 2 ^ 30 := fun x hx => by
          rw [er4 233 (by omega) (by omega) (by omega)]
          exact hD x hx
        rcases Nat.lt_or_ge v 1 with hv0 | hv1
        · have ev : v = 0 := by omega
          subst ev
          refine rn_t rfl ?_
          exact fin _ D rfl (fun a x1 x2 => wI_n x1) (fun x hx => by rw [wI_n (by omega)]; exact D4 x hx) (by rw [if_pos rfl])
        · have ev : v = 1 := by omega
          subst ev
          refine rn_f (by decide) ?_
          refine r_gP hK2 221 5 4 228 rfl (by decide) ?_
          refine rn_eq (q_aT (ks_a hK2 228 0 7 rfl) 2 rfl (by decide) (by decide)) ?_
          refine rn_eq (q_sI (ks_a hK2 228 0 7 rfl) 2 rfl (by decide) (by decide)) ?_
          refine r_gP hK2 221 5 10 233 rfl (by decide) ?_
          refine rn_eq (q_aT (ks_a hK2 233 0 150 rfl) t rfl (by omega) (by decide)) ?_
          have hDp := hvD rfl
          obtain ⟨w, hw9⟩ : ∃ w, D t = w + 1 := ⟨D t - 1, by omega⟩
          have e233 : ∀ x y, (wI (wI d4 (z + 228) 1 x) (z + 228) 2 y).1 (z + 233) t = nI (D t) := fun x y => by
            rw [wI_n (by omega), wI_n (by omega)]
            exact (D4 t ht).1
          rw [e233, hw9, nI_pred]
          refine rn_eq (q_sI (ks_a hK2 233 0 150 rfl) t rfl (by omega) (by decide)) ?_
          refine fin _ (dec1 D t) rfl (fun a x1 x2 => by rw [wI_n x2, wI_n x1, wI_n x1]) (fun x hx => ?_) (by rw [if_neg (by decide)])
          rw [wI_s, wI_n (by omega), wI_n (by omega)]
          unfold dec1
          by_cases ex : x = t
          · rw [ex, va_up_s, va_up_s, hw9]
            exact ⟨rfl, by have := (D4 t ht).2; omega⟩
          · rw [va_up_n ex, va_up_n ex]
            exact D4 x hx
      rcases Nat.lt_or_ge v 1 with hv0 | hv1
      · have ev : v = 0 := by omega
        subst ev
        exact rn_t rfl f106
      · have ev : v = 1 := by omega
        subst ev
        exact rn_f (by decide) f106
    refine r_gP hK 221 5 6 230 rfl (by decide) ?_
    refine rn_eq (q_aT (ks_a hK 230 0 150 rfl) t rfl (by omega) (by decide)) ?_
    refine r_gI hK (i := 221) (c := 5) rfl ?_
    rw [pa, hpl]
    refine rn_ite (fun q => ?_) (fun q => ?_)
    · refine r_gP hK 221 5 6 230 rfl (by decide) ?_
      refine rn_eq (q_aT (ks_a hK 230 0 150 rfl) t rfl (by omega) (by decide)) ?_
      rw [pa]
      have e : oth R t c = eA R t := if_neg (fun e => q (by rw [e]))
      rw [e] at h44 ⊢
      exact h44
    · refine r_gP hK 221 5 7 231 rfl (by decide) ?_
      refine rn_eq (q_aT (ks_a hK 231 0 150 rfl) t rfl (by omega) (by decide)) ?_
      rw [pb]
      have e : oth R t c = eB R t := if_pos (nI_inj (Decidable.of_not_not q) (by omega) (by omega))
      rw [e] at h44 ⊢
      exact h44
  · refine rn_f (fun q => hlt ((nI_ltI (b := 2000) (by omega) (by decide)).mp q)) ?_
    exact rn_some (Or.inl ⟨by omega, rfl⟩)
end DK2
