/-! planBothWays of the class -/
section KBW
variable {s s' : AS} {sh : Sh} {d d0 d' : Dt} {z : Nat} {ow ow' : Nat → Nat} {R K : Nat → Int32} {u : Bool} {y : YL} {N n m k i j c p q x e v a b S cc lo hi : Nat} {T T' D L Lp Lp' : Nat → Nat} {M : Nat → Prop} {l : List (Nat × Nat × Nat)} {Q : Int32 × AS → Prop}
theorem drA_more : ∀ (k : Nat) (T : Nat → Nat) (c : Nat) (D : Nat → Nat), smN T (nn R 1) ≤ k → drA R k T c D = drA R (smN T (nn R 1)) T c D
  | 0, T, c, D, h => by
    have e : smN T (nn R 1) = 0 := by omega
    rw [e]
  | k + 1, T, c, D, h => by
    by_cases hs : ∃ s, lvS R T c s
    · have h1 := (lvN_ok hs).1
      have hd := dec_sm (T := T) h1.1 h1.2.1
      have e : smN T (nn R 1) = smN (dec1 T (lvN R T c)) (nn R 1) + 1 := by omega
      have ih := drA_more k (dec1 T (lvN R T c)) (oth R (lvN R T c) c) (dec1 D (lvN R T c)) (by omega)
      rw [e, show drA R (k + 1) T c D = _ from ite_p hs, show drA R (smN (dec1 T (lvN R T c)) (nn R 1) + 1) T c D = _ from ite_p hs, ih]
    · rw [show drA R (k + 1) T c D = _ from ite_n hs]
      cases hm : smN T (nn R 1) with
      | zero => rfl
      | succ m => exact (show drA R (m + 1) T c D = _ from ite_n hs).symm
theorem tb_zero {V V' : Nat → Nat → Int32} (h : TB sh d z ow 222 4 S V Lp) (h2 : d'.2 = d.2) (h1 : d'.1 (z + 222) 1 = nI 0) : TB sh d' z ow 222 4 0 V' Lp := ⟨h1, fun c hc => by
  obtain ⟨a, e1, e2, e3, e4, e5, e6, e7⟩ := h.2 c hc
  exact ⟨a, by rw [h2]; exact e1, e2, e3, e4, Nat.zero_le _, e6, fun i hi => absurd hi (Nat.not_lt_zero i)⟩⟩
theorem kp_es (h : KP s z ow R T D c l Lp L M) (hN : WN R) (he : ES (IX z ow 201 220) s ow s' ow') : KP s' z ow' R T D c l Lp L M := by
  obtain ⟨h1, h2, h3, h4, h5, h6, h7, h8⟩ := h
  have r221 := es_row h1 h2 he (i := 221) (by decide) (by omega)
  have r230 := es_row h1 h2 he (i := 230) (by decide) (by omega)
  have r231 := es_row h1 h2 he (i := 231) (by decide) (by omega)
  have r232 := es_row h1 h2 he (i := 232) (by decide) (by omega)
  have r233 := es_row h1 h2 he (i := 233) (by decide) (by omega)
  refine ⟨KS.es h1 he, OWS.es h2 h1 he, ⟨?_, fun s hs => ?_⟩, ?_, fun t ht => ?_, tb_ix h6 h1 h2 (by decide) he (by omega), h7, wx_es h8 hN h1 h2 he (by decide)⟩
  · rw [r221.1]
    exact h3.1
  · rw [r230.1, r231.1, r232.1]
    exact h3.2 s hs
  · rw [r221.1]
    exact h4
  · rw [r233.1]
    exact h5 t ht
theorem kap_loop (hN2 : 300 ≤ N) (hK : KS sh z) (hw : OWS ow z) (hN : WN R) (hW : WS R) (hX : WX sh d0 z ow R L M) (h10 : d0.1 (z + 201) 10 = nI (pairsL R).length) (hP : PA d0 (z + 219) (z + 220) (pairsL R)) (hl : (pairsL R).length ≤ 30) (hd : ∀ q, q ∈ pairsL R → q.1 < nn R 0 ∧ q.2 < nn R 0 ∧ M q.2 ∧ ∃ n, dst R q.1 q.2 n) : ∀ (m k fu : Nat) (d : Dt) (T1 : Nat → Nat), k + m = (pairsL R).length → m < fu → PF z d0 d → (∀ s, s < nn R 1 → d.1 (z + 232) s = nI (T1 s)) → apP R T1 ((pairsL R).drop k) = apP R T (pairsL R) → Rn (f_X5_addPairs_28 N sh fu (z + 221) (nI k) d) (fun d' => PF z d0 d' ∧ ∀ s, s < nn R 1 → d'.1 (z + 232) s = nI (apP R T (pairsL R) s))
  | m, k, fu, d, T1, hc, hf, hF, hV, ha => by
    obtain ⟨fu, rfl⟩ : ∃ q, fu = q + 1 := ⟨fu - 1, by omega⟩
    have n0 := hN.1.2
    show Rn (g_X5_addPairs_28 N sh (f_X5_addPairs_28 N sh fu) (z + 221) (nI k) d) _
    have eg : d.1 (z + 201) = d0.1 (z + 201) := hF.2.1 _ (by omega) (by omega) (by omega)
    have e5 : d.1 (z + 219) = d0.1 (z + 219) := hF.2.1 _ (by omega) (by omega) (by omega)
    have e6 : d.1 (z + 220) = d0.1 (z + 220) := hF.2.1 _ (by omega) (by omega) (by omega)
    unfold g_X5_addPairs_28 f_X5_addPairs_86
    refine r_gP hK 221 5 2 201 rfl (by decide) ?_
    refine r_gI hK (i := 201) (c := 4) rfl ?_
    rw [eg, h10]
    cases m with
    | zero =>
      refine rn_t (nI_le (by omega) (by omega)) ?_
      have e : (pairsL R).drop k = [] := List.drop_eq_nil_of_le (by omega)
      rw [e] at ha
      have ha : T1 = apP R T (pairsL R) := ha
      exact rn_some ⟨hF, ha ▸ hV⟩
    | succ m =>
      have hk1 : k < (pairsL R).length := by omega
      refine rn_f (nI_ge hk1 (by omega)) ?_
      have eq : (pairsL R).drop k = (pairsL R)[k] :: (pairsL R).drop (k + 1) := List.drop_eq_getElem_cons hk1
      have ed : (pairsL R).getD k (0, 0) = (pairsL R)[k] := by
        rw [List.getD_eq_getElem?_getD, List.getElem?_eq_getElem hk1]
        rfl
      obtain ⟨p1, p2⟩ := hP k hk1
      rw [ed] at p1 p2
      obtain ⟨h1, h2, h4, n, h3⟩ := hd _ (List.getElem_mem hk1)
      rw [eq] at ha
      refine r_gP hK 221 5 2 201 rfl (by decide) ?_
      refine r_gP hK 201 4 8 219 rfl (by decide) ?_
      refine rn_eq (q_aT (ks_a hK 219 0 30 rfl) k rfl (by omega) (by decide)) ?_
      refine r_gP hK 221 5 2 201 rfl (by decide) ?_
      refine r_gP hK 201 4 9 220 rfl (by decide) ?_
      refine rn_eq (q_aT (ks_a hK 220 0 30 rfl) k rfl (by omega) (by decide)) ?_
      rw [e5, e6, p1, p2]
      refine r_gP hK 221 5 5 229 rfl (by decide) ?_
      refine rn_eq (q_sI (ks_a hK 229 0 60 rfl) (pairsL R)[k].1 rfl (by omega) (by decide)) ?_
      refine r_gP hK 221 5 5 229 rfl (by decide) ?_
      refine rn_eq (q_sI (ks_a hK 229 0 60 rfl) (pairsL R)[k].2 rfl (by omega) (by decide)) ?_
      have fw : PF z d0 (wI (wI d (z + 229) (pairsL R)[k].1 (nI (pairsL R)[k].2)) (z + 229) (pairsL R)[k].2 (nI (pairsL R)[k].1)) := (hF.tr (PF.w (Or.inr (Or.inl rfl)))).tr (PF.w (Or.inr (Or.inl rfl)))
      have hX2 := hX.pf hN hK hw fw
      refine rn_bind (k_addWay (n9 := 1) (T := T1) hN2 hK hw hN hW hX2 h4 h1 h3 (fun s hs => by rw [wI_n (by omega), wI_n (by omega)]; exact hV s hs)) (fun d2 hd2 => ?_)
      rw [nI_1]
      exact kap_loop hN2 hK hw hN hW hX h10 hP hl hd m (k + 1) fu d2 _ (by omega) (by omega) (fw.tr hd2.1) hd2.2.1 ha
theorem k_addPairs (hN2 : 300 ≤ N) (hK : KS sh z) (hw : OWS ow z) (hN : WN R) (hW : WS R) (hX : WX sh d z ow R L M) (h10 : d.1 (z + 201) 10 = nI (pairsL R).length) (hP : PA d (z + 219) (z + 220) (pairsL R)) (hl : (pairsL R).length ≤ 30) (hd : ∀ q, q ∈ pairsL R → q.1 < nn R 0 ∧ q.2 < nn R 0 ∧ M q.2 ∧ ∃ n, dst R q.1 q.2 n) (hV : ∀ s, s < nn R 1 → d.1 (z + 232) s = nI (T s)) : Rn (f_X5_addPairs N sh (z + 221) d) (fun d' => PF z d d' ∧ ∀ s, s < nn R 1 → d'.1 (z + 232) s = nI (apP R T (pairsL R) s)) := by
  unfold f_X5_addPairs
  refine rn_t (ks_o hK 221 5 rfl) ?_
  refine r_gP hK 221 5 4 228 rfl (by decide) ?_
  refine r_gP hK 221 5 2 201 rfl (by decide) ?_
  refine r_gI hK (i := 201) (c := 4) rfl ?_
  refine rn_eq (q_sI (ks_a hK 228 0 7 rfl) 5 rfl (by decide) (by decide)) ?_
  refine r_gP hK 221 5 4 228 rfl (by decide) ?_
  refine r_gP hK 221 5 2 201 rfl (by decide) ?_
  refine r_gI hK (i := 201) (c := 4) rfl ?_
  refine rn_eq (q_sI (ks_a hK 228 0 7 rfl) 4 rfl (by decide) (by decide)) ?_
  generalize hd2 : wI (wI d (z + 228) 5 (d.1 (z + 201) 10)) (z + 228) 4 ((wI d (z + 228) 5 (d.1 (z + 201) 10)).1 (z + 201) 11) = d2
  have f2 : PF z d d2 := by
    rw [← hd2]
    exact (PF.w (i := 228) (Or.inl rfl)).tr (PF.w (i := 228) (Or.inl rfl))
  have e : ∀ i, i < 228 ∨ i = 232 → d2.1 (z + i) = d.1 (z + i) := fun i hi => by
    rw [← hd2, wI_n (by omega), wI_n (by omega)]
  refine rn_mono (kap_loop (d0 := d2) (T := T) hN2 hK hw hN hW (hX.pf hN hK hw f2) (by rw [e 201 (by omega)]; exact h10) (fun k hk => by rw [e 219 (by omega), e 220 (by omega)]; exact hP k hk) hl hd (pairsL R).length 0 N d2 T (by omega) (by omega) PF.rf (fun s hs => by rw [e 232 (by omega)]; exact hV s hs) rfl) (fun d3 h3 => ⟨f2.tr h3.1, h3.2⟩)
theorem ksum_loop (hK : KS s.1 z) (h8 : s.2.1 (z + 221) 8 = nI (nn R 1)) (hN : WN R) (hV : ∀ t, t < nn R 1 → s.2.1 (z + 232) t = nI (T t)) (hk : Rn (f_X5_planBothWays_87 N (z + 221) (nI (smN T (nn R 1))) s) Q) : ∀ (m i fu : Nat), i + m = nn R 1 → m < fu → Rn (f_X5_planBothWays_62 N fu (z + 221) (nI (smN T i)) (nI i) s) Q
  | 0, i, fu, hi, hf => by
    obtain ⟨fu, rfl⟩ : ∃ q, fu = q + 1 := ⟨fu - 1, by omega⟩
    have n1 := hN.2.1.2
    show Rn (g_X5_planBothWays_62 N (f_X5_planBothWays_62 N fu) (z + 221) (nI (smN T i)) (nI i) s) _
    unfold g_X5_planBothWays_62
    refine r_gI hK (i := 221) (c := 5) rfl ?_
    rw [h8]
    refine rn_t (nI_le (by omega) (by omega)) ?_
    have e : i = nn R 1 := by omega
    rw [e]
    exact hk
  | m + 1, i, fu, hi, hf => by
    obtain ⟨fu, rfl⟩ : ∃ q, fu = q + 1 := ⟨fu - 1, by omega⟩
    have n1 := hN.2.1.2
    show Rn (g_X5_planBothWays_62 N (f_X5_planBothWays_62 N fu) (z + 221) (nI (smN T i)) (nI i) s) _
    unfold g_X5_planBothWays_62
    refine r_gI hK (i := 221) (c := 5) rfl ?_
    rw [h8]
    refine rn_f (nI_ge (by omega) (by omega)) ?_
    refine r_gP hK 221 5 9 232 rfl (by decide) ?_
    refine rn_eq (q_aT (ks_a hK 232 0 150 rfl) i rfl (by omega) (by decide)) ?_
    rw [hV i (by omega), nI_add, nI_1]
    exact ksum_loop hK h8 hN hV hk m (i + 1) fu (by omega) (by omega)
/-- what a plan leaves: the state holds, and the DRIVES stand in the planner's table -/
def PBQ (s : AS) (z : Nat) (R K : Nat → Int32) (u : Bool) (cc : Nat) (o : Int32 × List (Nat × Nat × Nat)) (r : Int32 × AS) : Prop := r.1 = o.1 ∧ RFR z s r.2 ∧ ∃ ow' y', CI r.2 z ow' R K u y' cc ∧ (o.1 = 0 → TB r.2.1 r.2.2 z ow' 222 4 o.2.length (vL R o.2) y'.2.2.1)
theorem inO_odd (hW : WS R) (hN : WN R) (hx : inO R x) : dgT R (T0 R) x (nn R 1) % 2 = 1 := by
  obtain ⟨i, hi, rfl⟩ := hx
  have hm : oC R i ∈ oddl R := by
    unfold oC
    rw [List.getD_eq_getElem?_getD, List.getElem?_eq_getElem hi]
    exact List.getElem_mem hi
  rw [oddl_P hW hN] at hm
  exact of_decide_eq_true (List.mem_filter.mp hm).2
theorem k_planBothWays (hNf : 20000 ≤ N) (h : CI s z ow R K u y cc) (hR : WF R) (hB : BW R) : Rn (f_X5_planBothWays N (z + 221) s) (PBQ s z R K u cc (pbR R)) := by
  have hK := h.1
  have hw := h.2.1
  have hN := hR.1
  have hW := hR.2.2.1
  have n0 := hN.1.2
  obtain ⟨⟨S, V, h4, h5⟩, h6⟩ := h.2.2.2.2.1.2.1
  unfold f_X5_planBothWays
  refine rn_t (ks_o hK 221 5 rfl) ?_
  refine rn_bind (k_begin (by omega) hK hN hW hw h.2.2.1.2.1) (fun d1 h1 => ?_)
  obtain ⟨f1, P1, c12, c222, D1⟩ := h1
  have es1 : ES (IX z ow 221 234) s ow (s.1, d1) ow := FD.es (sh := s.1) (d := s.2) (f1.fd hw)
  have t0 : TB s.1 d1 z ow 222 4 0 (vL R []) y.2.2.1 := tb_zero h4 f1.1 c222
  have c1 := ci_pln h es1 ⟨0, _, t0, by decide⟩ h6 (Nat.le_refl _) (Nat.le_refl _)
  refine rn_bind (k_look (by omega) hK hN hW P1) (fun r2 h2 => ?_)
  obtain ⟨n2, l1, l2⟩ := h2
  have c2 := ci_pf c1.1 n2.pf
  have t2 : TB s.1 r2.2 z ow 222 4 0 (vL R []) y.2.2.1 := tb_ix (s := (s.1, d1)) (s' := (s.1, r2.2)) t0 hK hw (by decide) (FD.es (sh := s.1) (d := d1) (n2.pf.fd hw)) (by omega)
  refine r_gP hK 221 5 1 77 rfl (by decide) ?_
  refine rn_bind (k_reached (c := 0) (T := T0 R) (by omega) hK hN hW (by decide) l1) (fun rc hrc => ?_)
  refine r_gP hK 221 5 2 201 rfl (by decide) ?_
  refine rn_bind (k_oddBits (by omega) hK hN hW c2.1.2.2.1.2.1) (fun ob hob => ?_)
  have hls : ∀ v, bit (r2.1 &&& (rc ^^^ (-1))) v = true ↔ lost R (T0 R) 0 v := fun v => by
    rw [bit_and, Bool.and_eq_true, l2 v]
    unfold lost
    refine ⟨fun q => ⟨fun r9 => ?_, q.1⟩, fun q => ⟨q.2, ?_⟩⟩
    · have q2 := q.2
      rw [bit_not (bit_big ((l2 v).mpr q.1)), (hrc v).mpr r9] at q2
      exact absurd q2 (by decide)
    · rw [bit_not (bit_big ((l2 v).mpr q.2))]
      cases hb : bit rc v with
      | false => rfl
      | true => exact absurd ((hrc v).mp hb) q.1
  have hgo : ∀ j, bit ((r2.1 &&& (rc ^^^ (-1))) ||| ob) j = true → j < nn R 0 := fun j hj => by
    rw [bit_or, Bool.or_eq_true] at hj
    rcases hj with q | q
    · exact lost_lt hW hN ((hls j).mp q)
    · exact ob_lt hW hN hob j q
  refine rn_bind (ci_each (s := (s.1, r2.2)) (by omega) c2.1 hR hgo) (fun d3 h3 => ?_)
  obtain ⟨c3, f3, q1, q2, q3, q4, q5⟩ := h3
  have es3 : ES (IX z ow 77 200) (s.1, r2.2) ow (s.1, d3) ow := FD.es (sh := s.1) (d := r2.2) (q1.fd hw)
  have r3 : ∀ i, i = 221 ∨ (230 ≤ i ∧ i ≤ 233) → d3.1 (z + i) = d1.1 (z + i) := fun i hi => by
    have e := (es_row (s := (s.1, r2.2)) (s' := (s.1, d3)) hK hw es3 (i := i) (by
      have : i = 221 ∨ i = 230 ∨ i = 231 ∨ i = 232 ∨ i = 233 := by omega
      rcases this with rfl | rfl | rfl | rfl | rfl <;> decide) (by omega)).1
    exact e.trans (congrFun n2.1 (z + i))
  have P3 : PL d3 z R (T0 R) := by
    refine ⟨?_, fun t ht => ?_⟩
    · rw [r3 221 (by omega)]
      exact P1.1
    · rw [r3 230 (by omega), r3 231 (by omega), r3 232 (by omega)]
      exact P1.2 t ht
  have X3 : WX s.1 d3 z ow R y.1.1 (fun b => bit ((r2.1 &&& (rc ^^^ (-1))) ||| ob) b = true) := ⟨c3.spn, c3.2.2.1.2.1, q3, fun b hb => ⟨hgo b hb, fun a ha => q4 b (by have := hgo b hb; omega) (q5 b hb) a ha⟩⟩
  have kp3 : KP (s.1, d3) z ow R (T0 R) (T0 R) 0 [] y.2.2.1 y.1.1 (fun b => bit ((r2.1 &&& (rc ^^^ (-1))) ||| ob) b = true) := ⟨hK, hw, P3, by rw [r3 221 (by omega)]; exact c12, fun t ht => ⟨by rw [r3 233 (by omega)]; exact D1 t ht, by have := T0_le hW ht; omega⟩, tb_ix (s := (s.1, r2.2)) (s' := (s.1, d3)) t2 hK hw (by decide) es3 (by omega), h6, X3⟩
  have F3 : RFR z s (s.1, d3) := (c1.2.tr c2.2).tr f3
  refine rn_bind (k_joinAll (by omega) hK hw hN hW X3 (fun t ht => T0_le hW ht) P3 (fun v hv => by rw [bit_or, (hls v).mpr hv]; rfl)) (fun r8 h8 => ?_)
  obtain ⟨f8, h8⟩ := h8
  have c8 := ci_pf (s := (s.1, d3)) c3 f8
  rcases h8 with ⟨j1, j2⟩ | ⟨T', j1, j2, P8⟩
  · refine rn_f (fun q => q j2) ?_
    have e : pbR R = (-8, []) := by unfold pbR; rw [j1]
    rw [e]
    exact rn_some ⟨rfl, F3.tr c8.2, ow, _, c8.1, fun q => absurd (show (-8 : Int32) = 0 from q) (by decide)⟩
  · refine rn_t (by rw [j2]; decide) ?_
    obtain ⟨b1, b2, b3, b4, hG, hd, b5, b6, -⟩ := joinF_all hW hN hB j1
    have kp8 := kp3.pf hN f8 P8
    have hMO : ∀ b, inO R b → bit ((r2.1 &&& (rc ^^^ (-1))) ||| ob) b = true := fun b hb => by
      rw [bit_or, hob b, decide_eq_true (inO_odd hW hN hb), Bool.or_true]
    have hGO : GO r8.2 z R := fun b hb a ha => (kp8.2.2.2.2.2.2.2.2.2.2 b (hMO b hb)).2 a ha
    refine r_gP hK 221 5 2 201 rfl (by decide) ?_
    refine rn_bind (k_pairUp (s := (s.1, r8.2)) hNf c8.1 hR hB hG hGO c8.1.spn) (fun s9 h9 => ?_)
    obtain ⟨ow9, Lt9, es9, c9, f9, g10, gPA⟩ := h9
    have kp9 := kp_es kp8 hN es9
    have hpl := pairsL_len hW hN
    unfold f_X5_planBothWays_53
    refine rn_bind (k_addPairs (T := T') (by omega) c9.1 c9.2.1 hN hW kp9.2.2.2.2.2.2.2 g10 gPA hpl (fun q hq => ⟨(hd q hq).2.2.1, (hd q hq).2.2.2.1, hMO _ (hd q hq).2.1, (hd q hq).2.2.2.2⟩) (fun t ht => (kp9.2.2.1.2 t ht).2.2.1)) (fun d10 h10 => ?_)
    obtain ⟨f10, v10⟩ := h10
    have c10 := ci_pf c9 f10
    have P10 : PL d10 z R (tsP R T') := kp9.2.2.1.pf f10 (fun t ht => ⟨v10 t ht, by have := b6 t ht; omega⟩)
    have kp10 := kp9.pf hN f10 P10
    have F10 : RFR z s (s9.1, d10) := ((F3.tr c8.2).tr f9).tr c10.2
    refine ksum_loop (s := (s9.1, d10)) (T := tsP R T') c9.1 P10.1 hN (fun t ht => v10 t ht) ?_ (nn R 1) 0 N (by omega) (by have := hN.2.1.2; omega)
    unfold f_X5_planBothWays_87 f_X5_planBothWays_102
    have sb : smN (tsP R T') (nn R 1) ≤ smN (fun _ => 9800) (nn R 1) := smN_le _ (fun k hk => b6 k hk)
    rw [smN_const] at sb
    have n1 := hN.2.1.2
    have sb2 : nn R 1 * 9800 ≤ 150 * 9800 := Nat.mul_le_mul_right _ n1
    by_cases ht : smN (tsP R T') (nn R 1) ≤ 2000
    · refine rn_t (nI_le (b := 2000) ht (by decide)) ?_
      have e : pbR R = (0, drA R 2000 (tsP R T') 0 (T0 R)) := by
        unfold pbR
        rw [j1]
        exact if_pos ht
      refine rn_bind (k_driveAll (by omega) hN hW ht kp10) (fun s11 h11 => rn_some ?_)
      obtain ⟨ow11, Lp11, T11, D11, c11', es11, kp11, m1, m2⟩ := h11
      rw [← drA_more 2000 (tsP R T') 0 (T0 R) ht] at kp11
      have c11 := ci_pln c10.1 es11 ⟨_, _, kp11.2.2.2.2.2.1, drA_len 2000 _ _ _⟩ kp11.2.2.2.2.2.2.1 m1 m2
      rw [e]
      exact ⟨rfl, F10.tr c11.2, ow11, _, c11.1, fun _ => kp11.2.2.2.2.2.1⟩
    · refine rn_f (fun q => ht ((nI_leI (b := 2000) (by omega) (by decide)).mp q)) ?_
      have e : pbR R = (-3, []) := by
        unfold pbR
        rw [j1]
        exact if_neg ht
      rw [e]
      exact rn_some ⟨rfl, F10, ow9, _, c10.1, fun q => absurd (show (-3 : Int32) = 0 from q) (by decide)⟩
end KBW
