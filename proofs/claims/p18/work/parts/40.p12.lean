/-! 9zd.kboth.lean.txt -/
/-! planBothWays of the class -/
section KBW
variable {s s' : AS} {sh : Sh} {d d0 d' : Dt} {z : Nat} {ow ow' : Nat → Nat} {R K : Nat → Int32} {u : Bool} {y : YL} {N n m k i j c p q x e v a b S cc lo hi : Nat} {T T' D L Lp Lp' : Nat → Nat} {M : Nat → Prop} {l : List (Nat × Nat × Nat)} {Q : Int32 × AS → Prop}
theorem drA_more : ∀ (k : Nat) (T : Nat → Nat) (c : Nat) (D : Nat → Nat), smN T (nn R 1) ≤ k → drA R k T c D = drA R (smN T (nn R 1)) T c D
  | 0, T, c, D, h => by
    have e : smN T (nn R 1) = 0 := by omega
    rw [e]
  | k + 1, T, c, D, h => by
    by_cases hs : ∃ s, lvS R T c s
    · have h1 := (lvN_ok hs).1
      have hd := dec_sm (T := T) h1.1 h1.2.1
      have e : smN T (nn R 1) = smN (dec1 T (lvN R T c)) (nn R 1) + 1 := by omega
      have ih := drA_more k (dec1 T (lvN R T c)) (oth R (lvN R T c) c) (dec1 D (lvN R T c)) (by omega)
      rw [e, show drA R (k + 1) T c D = _ from ite_p hs, show drA R (smN (dec1 T (lvN R T c)) (nn R 1) + 1) T c D = _ from ite_p hs, ih]
    · rw [show drA R (k + 1) T c D = _ from ite_n hs]
      cases hm : smN T (nn R 1) with
      | zero => rfl
      | succ m => exact (show drA R (m + 1) T c D = _ from ite_n hs).symm
theorem tb_zero {V V' : Nat → Nat → Int32} (h : TB sh d z ow 222 4 S V Lp) (h2 : d'.2 = d.2) (h1 : d'.1 (z + 222) 1 = nI 0) : TB sh d' z ow 222 4 0 V' Lp := ⟨h1, fun c hc => by
  obtain ⟨a, e1, e2, e3, e4, e5, e6, e7⟩ := h.2 c hc
  exact ⟨a, by rw [h2]; exact e1, e2, e3, e4, Nat.zero_le _, e6, fun i hi => absurd hi (Nat.not_lt_zero i)⟩⟩
theorem kp_es (h : KP s z ow R T D c l Lp L M) (hN : WN R) (he : ES (IX z ow 201 220) s ow s' ow') : KP s' z ow' R T D c l Lp L M := by
  obtain ⟨h1, h2, h3, h4, h5, h6, h7, h8⟩ := h
  have r221 := es_row h1 h2 he (i := 221) (by decide) (by omega)
  have r230 := es_row h1 h2 he (i := 230) (by decide) (by omega)
  have r231 := es_row h1 h2 he (i := 231) (by decide) (by omega)
  have r232 := es_row h1 h2 he (i := 232) (by decide) (by omega)
  have r233 := es_row h1 h2 he (i := 233) (by decide) (by omega)
  refine ⟨KS.es h1 he, OWS.es h2 h1 he, ⟨?_, fun s hs => ?_⟩, ?_, fun t ht => ?_, tb_ix h6 h1 h2 (by decide) he (by omega), h7, wx_es h8 hN h1 h2 he (by decide)⟩
  · rw [r221.1]
    exact h3.1
  · rw [r230.1, r231.1, r232.1]
    exact h3.2 s hs
  · rw [r221.1]
    exact h4
  · rw [r233.1]
    exact h5 t ht
theorem kap_loop (hN2 : 300 ≤ N) (hK : KS sh z) (hw : OWS ow z) (hN : WN R) (hW : WS R) (hX : WX sh d0 z ow R L M) (h10 : d0.1 (z + 201) 10 = nI (pairsL R).length) (hP : PA d0 (z + 219) (z + 220) (pairsL R)) (hl : (pairsL R).length ≤ 30) (hd : ∀ q, q ∈ pairsL R → q.1 < nn R 0 ∧ q.2 < nn R 0 ∧ M q.2 ∧ ∃ n, dst R q.1 q.2 n) : ∀ (m k fu : Nat) (d : Dt) (T1 : Nat → Nat), k + m = (pairsL R).length → m < fu → PF z d0 d → (∀ s, s < nn R 1 → d.1 (z + 232) s = nI (T1 s)) → apP R T1 ((pairsL R).drop k) = apP R T (pairsL R) → Rn (f_X5_addPairs_28 N sh fu (z + 221) (nI k) d) (fun d' => PF z d0 d' ∧ ∀ s, s < nn R 1 → d'.1 (z + 232) s = nI (apP R T (pairsL R) s))
  | m, k, fu, d, T1, hc, hf, hF, hV, ha => by
    obtain ⟨fu, rfl⟩ : ∃ q, fu = q + 1 := ⟨fu - 1, by omega⟩
    have n0 := hN.1.2
    show Rn (g_X5_addPairs_28 N sh (f_X5_addPairs_28 N sh fu) (z + 221) (nI k) d) _
    have eg : d.1 (z + 201) = d0.1 (z + 201) := hF.2.1 _ (by omega) (by omega) (by omega)
    have e5 : d.1 (z + 219) = d0.1 (z + 219) := hF.2.1 _ (by omega) (by omega) (by omega)
    have e6 : d.1 (z + 220) = d0.1 (z + 220) := hF.2.1 _ (by omega) (by omega) (by omega)
    unfold g_X5_addPairs_28 f_X5_addPairs_86
    refine r_gP hK 221 5 2 201 rfl (by decide) ?_
    refine r_gI hK (i := 201) (c := 4) rfl ?_
    rw [eg, h10]
    cases m with
    | zero =>
      refine rn_t (nI_le (by omega) (by omega)) ?_
      have e : (pairsL R).drop k = [] := List.drop_eq_nil_of_le (by omega)
      rw [e] at ha
      have ha : T1 = apP R T (pairsL R) := ha
      exact rn_some ⟨hF, ha ▸ hV⟩
    | succ m =>
      have hk1 : k < (pairsL R).length := by omega
      refine rn_f (nI_ge hk1 (by omega)) ?_
      have eq : (pairsL R).drop k = (pairsL R)[k] :: (pairsL R).drop (k + 1) := List.drop_eq_getElem_cons hk1
      have ed : (pairsL R).getD k (0, 0) = (pairsL R)[k] := by
        rw [List.getD_eq_getElem?_getD, List.getElem?_eq_getElem hk1]
        rfl
      obtain ⟨p1, p2⟩ := hP k hk1
      rw [ed] at p1 p2
      obtain ⟨h1, h2, h4, n, h3⟩ := hd _ (List.getElem_mem hk1)
      rw [eq] at ha
      refine r_gP hK 221 5 2 201 rfl (by decide) ?_
      refine r_gP hK 201 4 8 219 rfl (by decide) ?_
      refine rn_eq (q_aT (ks_a hK 219 0 30 rfl) k rfl (by omega) (by decide)) ?_
      refine r_gP hK 221 5 2 201 rfl (by decide) ?_
      refine r_gP hK 201 4 9 220 rfl (by decide) ?_
      refine rn_eq (q_aT (ks_a hK 220 0 30 rfl) k rfl (by omega) (by decide)) ?_
      rw [e5, e6, p1, p2]
      refine r_gP hK 221 5 5 229 rfl (by decide) ?_
      refine rn_eq (q_sI (ks_a hK 229 0 60 rfl) (pairsL R)[k].1 rfl (by omega) (by decide)) ?_
      refine r_gP hK 221 5 5 229 rfl (by decide) ?_
      refine rn_eq (q_sI (ks_a hK 229 0 60 rfl) (pairsL R)[k].2 rfl (by omega) (by decide)) ?_
      have fw : PF z d0 (wI (wI d (z + 229) (pairsL R)[k].1 (nI (pairsL R)[k].2)) (z + 229) (pairsL R)[k].2 (nI (pairsL R)[k].1)) := (hF.tr (PF.w (Or.inr (Or.inl rfl)))).tr (PF.w (Or.inr (Or.inl rfl)))
      have hX2 := hX.pf hN hK hw fw
      refine rn_bind (k_addWay (n9 := 1) (T := T1) hN2 hK hw hN hW hX2 h4 h1 h3 (fun s hs => by rw [wI_n (by omega), wI_n (by omega)]; exact hV s hs)) (fun d2 hd2 => ?_)
      rw [nI_1]
      exact kap_loop hN2 hK hw hN hW hX h10 hP hl hd m (k + 1) fu d2 _ (by omega) (by omega) (fw.tr hd2.1) hd2.2.1 ha
theorem k_addPairs (hN2 : 300 ≤ N) (hK : KS sh z) (hw : OWS ow z) (hN : WN R) (hW : WS R) (hX : WX sh d z ow R L M) (h10 : d.1 (z + 201) 10 = nI (pairsL R).length) (hP : PA d (z + 219) (z + 220) (pairsL R)) (hl : (pairsL R).length ≤ 30) (hd : ∀ q, q ∈ pairsL R → q.1 < nn R 0 ∧ q.2 < nn R 0 ∧ M q.2 ∧ ∃ n, dst R q.1 q.2 n) (hV : ∀ s, s < nn R 1 → d.1 (z + 232) s = nI (T s)) : Rn (f_X5_addPairs N sh (z + 221) d) (fun d' => PF z d d' ∧ ∀ s, s < nn R 1 → d'.1 (z + 232) s = nI (apP R T (pairsL R) s)) := by
  unfold f_X5_addPairs
  refine rn_t (ks_o hK 221 5 rfl) ?_
  refine r_gP hK 221 5 4 228 rfl (by decide) ?_
  refine r_gP hK 221 5 2 201 rfl (by decide) ?_
  refine r_gI hK (i := 201) (c := 4) rfl ?_
  refine rn_eq (q_sI (ks_a hK 228 0 7 rfl) 5 rfl (by decide) (by decide)) ?_
  refine r_gP hK 221 5 4 228 rfl (by decide) ?_
  refine r_gP hK 221 5 2 201 rfl (by decide) ?_
  refine r_gI hK (i := 201) (c := 4) rfl ?_
  refine rn_eq (q_sI (ks_a hK 228 0 7 rfl) 4 rfl (by decide) (by decide)) ?_
  generalize hd2 : wI (wI d (z + 228) 5 (d.1 (z + 201) 10)) (z + 228) 4 ((wI d (z + 228) 5 (d.1 (z + 201) 10)).1 (z + 201) 11) = d2
  have f2 : PF z d d2 := by
    rw [← hd2]
    exact (PF.w (i := 228) (Or.inl rfl)).tr (PF.w (i := 228) (Or.inl rfl))
  have e : ∀ i, i < 228 ∨ i = 232 → d2.1 (z + i) = d.1 (z + i) := fun i hi => by
    rw [← hd2, wI_n (by omega), wI_n (by omega)]
  refine rn_mono (kap_loop (d0 := d2) (T := T) hN2 hK hw hN hW (hX.pf hN hK hw f2) (by rw [e 201 (by omega)]; exact h10) (fun k hk => by rw [e 219 (by omega), e 220 (by omega)]; exact hP k hk) hl hd (pairsL R).length 0 N d2 T (by omega) (by omega) PF.rf (fun s hs => by rw [e 232 (by omega)]; exact hV s hs) rfl) (fun d3 h3 => ⟨f2.tr h3.1, h3.2⟩)
theorem ksum_loop (hK : KS s.1 z) (h8 : s.2.1 (z + 221) 8 = nI (nn R 1)) (hN : WN R) (hV : ∀ t, t < nn R 1 → s.2.1 (z + 232) t = nI (T t)) (hk : Rn (f_X5_planBothWays_87 N (z + 221) (nI (smN T (nn R 1))) s) Q) : ∀ (m i fu : Nat), i + m = nn R 1 → m < fu → Rn (f_X5_planBothWays_62 N fu (z + 221) (nI (smN T i)) (nI i) s) Q
  | 0, i, fu, hi, hf => by
    obtain ⟨fu, rfl⟩ : ∃ q, fu = q + 1 := ⟨fu - 1, by omega⟩
    have n1 := hN.2.1.2
    show Rn (g_X5_planBothWays_62 N (f_X5_planBothWays_62 N fu) (z + 221) (nI (smN T i)) (nI i) s) _
    unfold g_X5_planBothWays_62
    refine r_gI hK (i := 221) (c := 5) rfl ?_
    rw [h8]
    refine rn_t (nI_le (by omega) (by omega)) ?_
    have e : i = nn R 1 := by omega
    rw [e]
    exact hk
  | m + 1, i, fu, hi, hf => by
    obtain ⟨fu, rfl⟩ : ∃ q, fu = q + 1 := ⟨fu - 1, by omega⟩
    have n1 := hN.2.1.2
    show Rn (g_X5_planBothWays_62 N (f_X5_planBothWays_62 N fu) (z + 221) (nI (smN T i)) (nI i) s) _
    unfold g_X5_planBothWays_62
    refine r_gI hK (i := 221) (c := 5) rfl ?_
    rw [h8]
    refine rn_f (nI_ge (by omega) (by omega)) ?_
    refine r_gP hK 221 5 9 232 rfl (by decide) ?_
    refine rn_eq (q_aT (ks_a hK 232 0 150 rfl) i rfl (by omega) (by decide)) ?_
    rw [hV i (by omega), nI_add, nI_1]
    exact ksum_loop hK h8 hN hV hk m (i + 1) fu (by omega) (by omega)
/-- what a plan leaves: the state holds, and the DRIVES stand in the planner's table -/
def PBQ (s : AS) (z : Nat) (R K : Nat → Int32) (u : Bool) (cc : Nat) (o : Int32 × List (Nat × Nat × Nat)) (r : Int32 × AS) : Prop := r.1 = o.1 ∧ RFR z s r.2 ∧ ∃ ow' y', CI r.2 z ow' R K u y' cc ∧ (o.1 = 0 → TB r.2.1 r.2.2 z ow' 222 4 o.2.length (vL R o.2) y'.2.2.1)
theorem inO_odd (hW : WS R) (hN : WN R) (hx : inO R x) : dgT R (T0 R) x (nn R 1) % 2 = 1 := by
  obtain ⟨i, hi, rfl⟩ := hx
  have hm : oC R i ∈ oddl R := by
    unfold oC
    rw [List.getD_eq_getElem?_getD, List.getElem?_eq_getElem hi]
    exact List.getElem_mem hi
  rw [oddl_P hW hN] at hm
  exact of_decide_eq_true (List.mem_filter.mp hm).2
theorem k_planBothWays (hNf : 20000 ≤ N) (h : CI s z ow R K u y cc) (hR : WF R) (hB : BW R) : Rn (f_X5_planBothWays N (z + 221) s) (PBQ s z R K u cc (pbR R)) := by
  have hK := h.1
  have hw := h.2.1
  have hN := hR.1
  have hW := hR.2.2.1
  have n0 := hN.1.2
  obtain ⟨⟨S, V, h4, h5⟩, h6⟩ := h.2.2.2.2.1.2.1
  unfold f_X5_planBothWays
  refine rn_t (ks_o hK 221 5 rfl) ?_
  refine rn_bind (k_begin (by omega) hK hN hW hw h.2.2.1.2.1) (fun d1 h1 => ?_)
  obtain ⟨f1, P1, c12, c222, D1⟩ := h1
  have es1 : ES (IX z ow 221 234) s ow (s.1, d1) ow := FD.es (sh := s.1) (d := s.2) (f1.fd hw)
  have t0 : TB s.1 d1 z ow 222 4 0 (vL R []) y.2.2.1 := tb_zero h4 f1.1 c222
  have c1 := ci_pln h es1 ⟨0, _, t0, by decide⟩ h6 (Nat.le_refl _) (Nat.le_refl _)
  refine rn_bind (k_look (by omega) hK hN hW P1) (fun r2 h2 => ?_)
  obtain ⟨n2, l1, l2⟩ := h2
  have c2 := ci_pf c1.1 n2.pf
  have t2 : TB s.1 r2.2 z ow 222 4 0 (vL R []) y.2.2.1 := tb_ix (s := (s.1, d1)) (s' := (s.1, r2.2)) t0 hK hw (by decide) (FD.es (sh := s.1) (d := d1) (n2.pf.fd hw)) (by omega)
  refine r_gP hK 221 5 1 77 rfl (by decide) ?_
  refine rn_bind (k_reached (c := 0) (T := T0 R) (by omega) hK hN hW (by decide) l1) (fun rc hrc => ?_)
  refine r_gP hK 221 5 2 201 rfl (by decide) ?_
  refine rn_bind (k_oddBits (by omega) hK hN hW c2.1.2.2.1.2.1) (fun ob hob => ?_)
  have hls : ∀ v, bit (r2.1 &&& (rc ^^^ (-1))) v = true ↔ lost R (T0 R) 0 v := fun v => by
    rw [bit_and, Bool.and_eq_true, l2 v]
    unfold lost
    refine ⟨fun q => ⟨fun r9 => ?_, q.1⟩, fun q => ⟨q.2, ?_⟩⟩
    · have q2 := q.2
      rw [bit_not (bit_big ((l2 v).mpr q.1)), (hrc v).mpr r9] at q2
      exact absurd q2 (by decide)
    · rw [bit_not (bit_big ((l2 v).mpr q.2))]
      cases hb : bit rc v with
      | false => rfl
      | true => exact absurd ((hrc v).mp hb) q.1
  have hgo : ∀ j, bit ((r2.1 &&& (rc ^^^ (-1))) ||| ob) j = true → j < nn R 0 := fun j hj => by
    rw [bit_or, Bool.or_eq_true] at hj
    rcases hj with q | q
    · exact lost_lt hW hN ((hls j).mp q)
    · exact ob_lt hW hN hob j q
  refine rn_bind (ci_each (s := (s.1, r2.2)) (by omega) c2.1 hR hgo) (fun d3 h3 => ?_)
  obtain ⟨c3, f3, q1, q2, q3, q4, q5⟩ := h3
  have es3 : ES (IX z ow 77 200) (s.1, r2.2) ow (s.1, d3) ow := FD.es (sh := s.1) (d := r2.2) (q1.fd hw)
  have r3 : ∀ i, i = 221 ∨ (230 ≤ i ∧ i ≤ 233) → d3.1 (z + i) = d1.1 (z + i) := fun i hi => by
    have e := (es_row (s := (s.1, r2.2)) (s' := (s.1, d3)) hK hw es3 (i := i) (by
      have : i = 221 ∨ i = 230 ∨ i = 231 ∨ i = 232 ∨ i = 233 := by omega
      rcases this with rfl | rfl | rfl | rfl | rfl <;> decide) (by omega)).1
    exact e.trans (congrFun n2.1 (z + i))
  have P3 : PL d3 z R (T0 R) := by
    refine ⟨?_, fun t ht => ?_⟩
    · rw [r3 221 (by omega)]
      exact P1.1
    · rw [r3 230 (by omega), r3 231 (by omega), r3 232 (by omega)]
      exact P1.2 t ht
  have X3 : WX s.1 d3 z ow R y.1.1 (fun b => bit ((r2.1 &&& (rc ^^^ (-1))) ||| ob) b = true) := ⟨c3.spn, c3.2.2.1.2.1, q3, fun b hb => ⟨hgo b hb, fun a ha => q4 b (by have := hgo b hb; omega) (q5 b hb) a ha⟩⟩
  have kp3 : KP (s.1, d3) z ow R (T0 R) (T0 R) 0 [] y.2.2.1 y.1.1 (fun b => bit ((r2.1 &&& (rc ^^^ (-1))) ||| ob) b = true) := ⟨hK, hw, P3, by rw [r3 221 (by omega)]; exact c12, fun t ht => ⟨by rw [r3 233 (by omega)]; exact D1 t ht, by have := T0_le hW ht; omega⟩, tb_ix (s := (s.1, r2.2)) (s' := (s.1, d3)) t2 hK hw (by decide) es3 (by omega), h6, X3⟩
  have F3 : RFR z s (s.1, d3) := (c1.2.tr c2.2).tr f3
  refine rn_bind (k_joinAll (by omega) hK hw hN hW X3 (fun t ht => T0_le hW ht) P3 (fun v hv => by rw [bit_or, (hls v).mpr hv]; rfl)) (fun r8 h8 => ?_)
  obtain ⟨f8, h8⟩ := h8
  have c8 := ci_pf (s := (s.1, d3)) c3 f8
  rcases h8 with ⟨j1, j2⟩ | ⟨T', j1, j2, P8⟩
  · refine rn_f (fun q => q j2) ?_
    have e : pbR R = (-8, []) := by unfold pbR; rw [j1]
    rw [e]
    exact rn_some ⟨rfl, F3.tr c8.2, ow, _, c8.1, fun q => absurd (show (-8 : Int32) = 0 from q) (by decide)⟩
  · refine rn_t (by rw [j2]; decide) ?_
    obtain ⟨b1, b2, b3, b4, hG, hd, b5, b6, -⟩ := joinF_all hW hN hB j1
    have kp8 := kp3.pf hN f8 P8
    have hMO : ∀ b, inO R b → bit ((r2.1 &&& (rc ^^^ (-1))) ||| ob) b = true := fun b hb => by
      rw [bit_or, hob b, decide_eq_true (inO_odd hW hN hb), Bool.or_true]
    have hGO : GO r8.2 z R := fun b hb a ha => (kp8.2.2.2.2.2.2.2.2.2.2 b (hMO b hb)).2 a ha
    refine r_gP hK 221 5 2 201 rfl (by decide) ?_
    refine rn_bind (k_pairUp (s := (s.1, r8.2)) hNf c8.1 hR hB hG hGO c8.1.spn) (fun s9 h9 => ?_)
    obtain ⟨ow9, Lt9, es9, c9, f9, g10, gPA⟩ := h9
    have kp9 := kp_es kp8 hN es9
    have hpl := pairsL_len hW hN
    unfold f_X5_planBothWays_53
    refine rn_bind (k_addPairs (T := T') (by omega) c9.1 c9.2.1 hN hW kp9.2.2.2.2.2.2.2 g10 gPA hpl (fun q hq => ⟨(hd q hq).2.2.1, (hd q hq).2.2.2.1, hMO _ (hd q hq).2.1, (hd q hq).2.2.2.2⟩) (fun t ht => (kp9.2.2.1.2 t ht).2.2.1)) (fun d10 h10 => ?_)
    obtain ⟨f10, v10⟩ := h10
    have c10 := ci_pf c9 f10
    have P10 : PL d10 z R (tsP R T') := kp9.2.2.1.pf f10 (fun t ht => ⟨v10 t ht, by have := b6 t ht; omega⟩)
    have kp10 := kp9.pf hN f10 P10
    have F10 : RFR z s (s9.1, d10) := ((F3.tr c8.2).tr f9).tr c10.2
    refine ksum_loop (s := (s9.1, d10)) (T := tsP R T') c9.1 P10.1 hN (fun t ht => v10 t ht) ?_ (nn R 1) 0 N (by omega) (by have := hN.2.1.2; omega)
    unfold f_X5_planBothWays_87 f_X5_planBothWays_102
    have sb : smN (tsP R T') (nn R 1) ≤ smN (fun _ => 9800) (nn R 1) := smN_le _ (fun k hk => b6 k hk)
    rw [smN_const] at sb
    have n1 := hN.2.1.2
    have sb2 : nn R 1 * 9800 ≤ 150 * 9800 := Nat.mul_le_mul_right _ n1
    by_cases ht : smN (tsP R T') (nn R 1) ≤ 2000
    · refine rn_t (nI_le (b := 2000) ht (by decide)) ?_
      have e : pbR R = (0, drA R 2000 (tsP R T') 0 (T0 R)) := by
        unfold pbR
        rw [j1]
        exact if_pos ht
      refine rn_bind (k_driveAll (by omega) hN hW ht kp10) (fun s11 h11 => rn_some ?_)
      obtain ⟨ow11, Lp11, T11, D11, c11', es11, kp11, m1, m2⟩ := h11
      rw [← drA_more 2000 (tsP R T') 0 (T0 R) ht] at kp11
      have c11 := ci_pln c10.1 es11 ⟨_, _, kp11.2.2.2.2.2.1, drA_len 2000 _ _ _⟩ kp11.2.2.2.2.2.2.1 m1 m2
      rw [e]
      exact ⟨rfl, F10.tr c11.2, ow11, _, c11.1, fun _ => kp11.2.2.2.2.2.1⟩
    · refine rn_f (fun q => ht ((nI_leI (b := 2000) (by omega) (by decide)).mp q)) ?_
      have e : pbR R = (-3, []) := by
        unfold pbR
        rw [j1]
        exact if_neg ht
      rw [e]
      exact rn_some ⟨rfl, F10, ow9, _, c10.1, fun q => absurd (show (-3 : Int32) = 0 from q) (by decide)⟩
end KBW
/-! 9ze.knear.lean.txt -/
/-! nearestStart and driveTo of the planner -/
/-- a table of DRIVES that grows: the state is kept -/
def GRQ (s0 : AS) (z : Nat) (ow0 : Nat → Nat) (R : Nat → Int32) (T D : Nat → Nat) (c : Nat) (l : List (Nat × Nat × Nat)) (Lp0 L : Nat → Nat) (M : Nat → Prop) (s' : AS) : Prop := ∃ ow' Lp', ES (IX z ow0 221 234) s0 ow0 s' ow' ∧ KP s' z ow' R T D c l Lp' L M ∧ l.length ≤ 2000 ∧ s'.1.1.2.2 + 2 * smN Lp0 4 ≤ s0.1.1.2.2 + 2 * smN Lp' 4 ∧ 4 * s'.1.1.2.1 + smN Lp0 4 ≤ 4 * s0.1.1.2.1 + smN Lp' 4
/-- .. whatever stands in it -/
def GRA (s0 : AS) (z : Nat) (ow0 : Nat → Nat) (R : Nat → Int32) (Lp0 L : Nat → Nat) (M : Nat → Prop) (s' : AS) : Prop := ∃ T D c l, GRQ s0 z ow0 R T D c l Lp0 L M s'
section KNR
variable {s s' s0 s1 : AS} {sh : Sh} {d d0 d' : Dt} {z : Nat} {ow ow' ow0 : Nat → Nat} {R K : Nat → Int32} {u : Bool} {y : YL} {N n m k i j c p q x e v a b t cc : Nat} {T T' D L Lp Lp0 Lp' : Nat → Nat} {M : Nat → Prop} {l : List (Nat × Nat × Nat)} {w : Option (Nat × Nat)}
theorem GRQ.any (h : GRQ s0 z ow0 R T D c l Lp0 L M s') : GRA s0 z ow0 R Lp0 L M s' := ⟨T, D, c, l, h⟩
theorem GRQ.rf (h : KP s z ow R T D c l Lp L M) (hl : l.length ≤ 2000) : GRQ s z ow R T D c l Lp L M s := ⟨ow, Lp, ES.rf, h, hl, Nat.le_refl _, Nat.le_refl _⟩
theorem oth_nxt (hW : WS R) (hN : WN R) (hc : c < 2 ^ 31) (h : nxS R b c (nxt R b c).1 (nxt R b c).2) : oth R (nxt R b c).1 c = (nxt R b c).2 := by
  have n0 := hN.1.2
  obtain ⟨h1, ⟨h2, h3, h4⟩, -⟩ := h.1
  obtain ⟨e7, a2, e8, b2, hne⟩ := ws_e hW hN h2
  unfold oth
  rcases h4 with ⟨q1, q2⟩ | ⟨-, q1, q2⟩
  · rw [e7] at q1
    rw [e8] at q2
    rw [if_pos (nI_inj q1 (by omega) hc)]
    exact nI_inj q2 (by omega) (by omega)
  · rw [e8] at q1
    rw [e7] at q2
    have g := nI_inj q1 (by omega) hc
    rw [if_neg (by omega)]
    exact nI_inj q2 (by omega) (by omega)
theorem dt_stop {k24 : Nat → Int32 → Int32 → Int32 → AS → Option (Int32 × AS)} {g l3 : Int32} (hK : KS s.1 z) : g_X5_driveTo_24 N k24 (z + 221) g (-3) l3 s = some (-3, s) := by
  refine rn_val ?_
  unfold g_X5_driveTo_24 f_X5_driveTo_81
  refine rn_ite (fun _ => rn_some rfl) (fun _ => ?_)
  refine r_gI hK (i := 221) (c := 5) rfl ?_
  refine rn_ite (fun _ => rn_some rfl) (fun _ => ?_)
  exact rn_t (by decide) (rn_some rfl)
theorem dt_loop (hN2 : 300 ≤ N) (hN : WN R) (hW : WS R) (hb : b < nn R 0) (hM : M b) : ∀ (m k fu c : Nat) (s : AS) (l : List (Nat × Nat × Nat)), k + m = 60 → m + 1 < fu → rk R b m c → c < nn R 0 → GRQ s0 z ow0 R T D c l Lp0 L M s → Rn (f_X5_driveTo_24 N fu (z + 221) (nI b) 0 (nI k) s) (fun r => (r.1 = 0 ∧ (l ++ emL R b m c).length ≤ 2000 ∧ GRQ s0 z ow0 R T D b (l ++ emL R b m c) Lp0 L M r.2) ∨ (r.1 = -3 ∧ 2000 < (l ++ emL R b m c).length ∧ GRA s0 z ow0 R Lp0 L M r.2))
  | m, k, fu, c, s, l, hk, hf, hr, hc, h => by
    obtain ⟨fu, rfl⟩ : ∃ q, fu = q + 1 := ⟨fu - 1, by omega⟩
    have n0 := hN.1.2
    have n1 := hN.2.1.2
    obtain ⟨ow, Lp, es, kp, hl, m1, m2⟩ := id h
    have hK := kp.1
    have hX := kp.2.2.2.2.2.2.2
    show Rn (g_X5_driveTo_24 N (f_X5_driveTo_24 N fu) (z + 221) (nI b) 0 (nI k) s) _
    have here : c = b → (l ++ emL R b m c).length ≤ 2000 ∧ GRQ s0 z ow0 R T D b (l ++ emL R b m c) Lp0 L M s := fun e => by
      have em : emL R b m c = [] := by
        cases m with
        | zero => rfl
        | succ m => exact if_pos e
      rw [em, List.append_nil]
      subst e
      exact ⟨hl, h⟩
    unfold g_X5_driveTo_24 f_X5_driveTo_81
    cases m with
    | zero =>
      refine rn_t (nI_le (a := 60) (by omega) (by omega)) ?_
      have g := here hr
      exact rn_some (Or.inl ⟨rfl, g.1, g.2⟩)
    | succ m =>
      refine rn_f (nI_ge (b := 60) (by omega) (by decide)) ?_
      refine r_gI hK (i := 221) (c := 5) rfl ?_
      rw [kp.2.2.2.1]
      by_cases e : c = b
      · refine rn_t (by rw [e]) ?_
        have g := here e
        exact rn_some (Or.inl ⟨rfl, g.1, g.2⟩)
      · refine rn_f (fun q => e (nI_inj q (by omega) (by omega))) ?_
        refine rn_f (fun q => q rfl) ?_
        rcases hr with hr | ⟨⟨n, hd⟩, hx, hr⟩
        · exact absurd hr e
        have st := hx.1
        have hs := st.2.1.1
        have ho := oth_nxt hW hN (by omega) hx
        have em : emL R b (m + 1) c = ((nxt R b c).1, c, 0) :: emL R b m (nxt R b c).2 := if_neg e
        refine r_gP hK 221 5 1 77 rfl (by decide) ?_
        refine r_gI hK (i := 221) (c := 5) rfl ?_
        rw [kp.2.2.2.1]
        refine rn_eq ((k_nextStreet hN2 hK hN hW hX.1 hX.2.1 hX.2.2.1 hb (fun a ha => (hX.2.2.2 b hM).2 a ha) hc).1 ⟨n, hd⟩ e) ?_
        refine rn_t (nI_m1 (by omega)) ?_
        refine rn_bind (k_addDrive (v := 0) (by decide) (fun q => absurd q (by decide)) hN2 hN hW hs (by omega) hl kp) (fun r hr9 => ?_)
        unfold f_X5_driveTo_74
        rw [nI_1]
        rcases hr9 with ⟨g1, g2⟩ | ⟨g1, g2, ow2, Lp2, es2, kp2, k1, k2⟩
        · rw [g2]
          obtain ⟨fu, rfl⟩ : ∃ q, fu = q + 1 := ⟨fu - 1, by omega⟩
          show Rn (g_X5_driveTo_24 N (f_X5_driveTo_24 N fu) (z + 221) (nI b) (-3) (nI (k + 1)) s) _
          rw [dt_stop hK]
          refine rn_some (Or.inr ⟨rfl, ?_, h.any⟩)
          rw [em, List.length_append, List.length_cons]
          omega
        · rw [g2]
          have kp2 : KP r.2 z ow2 R T D (nxt R b c).2 (l ++ [((nxt R b c).1, c, 0)]) Lp2 L M := by
            have := kp2
            rw [ho] at this
            exact this
          have k1 : r.2.1.1.2.2 + 2 * smN Lp 4 ≤ s.1.1.2.2 + 2 * smN Lp2 4 := k1
          have k2 : 4 * r.2.1.1.2.1 + smN Lp 4 ≤ 4 * s.1.1.2.1 + smN Lp2 4 := k2
          have gq : GRQ s0 z ow0 R T D (nxt R b c).2 (l ++ [((nxt R b c).1, c, 0)]) Lp0 L M r.2 := ⟨ow2, Lp2, es_tr es es2, kp2, by rw [List.length_append]; show l.length + 1 ≤ 2000; omega, by omega, by omega⟩
          have ea : l ++ emL R b (m + 1) c = (l ++ [((nxt R b c).1, c, 0)]) ++ emL R b m (nxt R b c).2 := by
            rw [em, List.append_assoc]
            rfl
          rw [ea]
          exact dt_loop hN2 hN hW hb hM m (k + 1) fu _ r.2 _ (by omega) (by omega) hr st.1 gq
theorem k_driveTo (hN2 : 300 ≤ N) (hN : WN R) (hW : WS R) (hb : b < nn R 0) (hM : M b) (hc : c < nn R 0) (h : GRQ s0 z ow0 R T D c l Lp0 L M s) : Rn (f_X5_driveTo N (z + 221) (nI b) s) (fun r => ((∃ n, dst R c b n) ∧ ((r.1 = 0 ∧ (l ++ emL R b 60 c).length ≤ 2000 ∧ GRQ s0 z ow0 R T D b (l ++ emL R b 60 c) Lp0 L M r.2) ∨ (r.1 = -3 ∧ 2000 < (l ++ emL R b 60 c).length ∧ GRA s0 z ow0 R Lp0 L M r.2))) ∨ ((¬ ∃ n, dst R c b n) ∧ r.1 = -8 ∧ GRA s0 z ow0 R Lp0 L M r.2)) := by
  have n0 := hN.1.2
  obtain ⟨ow, Lp, es, kp, hl, m1, m2⟩ := id h
  have hK := kp.1
  have hX := kp.2.2.2.2.2.2.2
  unfold f_X5_driveTo
  refine rn_t (ks_o hK 221 5 rfl) ?_
  refine r_gP hK 221 5 1 77 rfl (by decide) ?_
  refine r_gI hK (i := 221) (c := 5) rfl ?_
  rw [kp.2.2.2.1]
  refine rn_eq (k_between hK hX.1 (by omega) (by omega)) ?_
  rcases (hX.2.2.2 b hM).2 c (by omega) with ⟨n, g1, g2, g3⟩ | ⟨g1, g3⟩
  · rw [g3]
    refine rn_t (nI_lt (b := 1000000000) (by omega) (by decide)) ?_
    exact rn_mono (dt_loop hN2 hN hW hb hM 60 0 N c s l (by omega) (by omega) (rk_60 hW hN g1) hc h) (fun r hr => Or.inl ⟨⟨n, g1⟩, hr⟩)
  · rw [g3]
    refine rn_f (by decide) ?_
    exact rn_some (Or.inr ⟨fun ⟨n, ⟨p, hp, _⟩, _⟩ => g1 p hp, rfl, h.any⟩)
/-! nearestStart -/
def W3 (w : Option (Nat × Nat)) (l1 : Int32) : Prop := (w = none ∧ l1 = -1) ∨ ∃ q, w = some q ∧ l1 = nI (2 * q.1 + q.2)
theorem ns_loop (hN2 : 300 ≤ N) (hN : WN R) (hW : WS R) (hc : c < nn R 0) (h : KP s z ow R T D c l Lp L M) (hM : ∀ t, t < nn R 1 → 0 < D t → M (eA R t) ∧ M (eB R t)) : ∀ (m i fu : Nat) (l1 l2 : Int32) (w : Option (Nat × Nat)), i + m = nn R 1 → m < fu → NRI R D c 1000000000 (fun t _ => t < i) l2 w → W3 w l1 → Rn (f_X5_nearestStart_7 N s.1 s.2 fu (z + 221) l1 l2 (nI i)) (fun r => ∃ l2 w, NRI R D c 1000000000 (fun t _ => t < nn R 1) l2 w ∧ W3 w r)
  | 0, i, fu, l1, l2, w, hi, hf, hn, hw => by
    obtain ⟨fu, rfl⟩ : ∃ q, fu = q + 1 := ⟨fu - 1, by omega⟩
    have n1 := hN.2.1.2
    show Rn (g_X5_nearestStart_7 N s.1 (f_X5_nearestStart_7 N s.1 s.2 fu) (z + 221) l1 l2 (nI i) s.2) _
    unfold g_X5_nearestStart_7 f_X5_nearestStart_154
    refine r_gI h.1 (i := 221) (c := 5) rfl ?_
    rw [h.2.2.1.1]
    refine rn_t (nI_le (by omega) (by omega)) ?_
    have e : i = nn R 1 := by omega
    rw [e] at hn
    exact rn_some ⟨l2, w, hn, hw⟩
  | m + 1, i, fu, l1, l2, w, hi, hf, hn, hw => by
    obtain ⟨fu, rfl⟩ : ∃ q, fu = q + 1 := ⟨fu - 1, by omega⟩
    have n0 := hN.1.2
    have n1 := hN.2.1.2
    have hi1 : i < nn R 1 := by omega
    have hK := h.1
    obtain ⟨pa, pb, -, -⟩ := h.2.2.1.2 i hi1
    obtain ⟨d1, d2⟩ := h.2.2.2.2.1 i hi1
    have hX := h.2.2.2.2.2.2.2
    obtain ⟨e7, a2, e8, b2, hne⟩ := ws_e hW hN hi1
    have ih := ns_loop hN2 hN hW hc h hM m (i + 1) fu
    have bt : ∀ b, b < nn R 0 → f_X10_between N s.1 (z + 77) (nI c) (nI b) s.2 = some (s.2.1 (z + (141 + b)) c) := fun b hb => k_between hK hX.1 (by omega) (by omega)
    show Rn (g_X5_nearestStart_7 N s.1 (f_X5_nearestStart_7 N s.1 s.2 fu) (z + 221) l1 l2 (nI i) s.2) _
    have two : ∀ l1 l2 w, NRI R D c 1000000000 (fun a e => a < i ∨ (a = i ∧ e = 0)) l2 w → W3 w l1 → Rn (f_X5_nearestStart_67 N s.1 (f_X5_nearestStart_7 N s.1 s.2 fu) (z + 221) l1 l2 (nI i) s.2) (fun r => ∃ l2 w, NRI R D c 1000000000 (fun t _ => t < nn R 1) l2 w ∧ W3 w r) := fun l1 l2 w hn hw => by
      unfold f_X5_nearestStart_67
      refine r_gP hK 221 5 0 3 rfl (by decide) ?_
      refine r_gP hK 3 1 1 4 rfl (by decide) ?_
      refine rn_eq (tb_get (o := 4) (nc := 9) (c := 5) hK (by decide) hX.2.1 rfl hi1 rfl (by decide)) ?_
      have v5 : vS R 5 i = R (16 + 9 * i + 5) := rfl
      rw [v5]
      have no : (∀ n, nrC R D c i 1 n → False) → ∀ t0, t0 = 0 ∨ ¬ 0 < D i → Rn (f_X5_nearestStart_87 N s.1 (f_X5_nearestStart_7 N s.1 s.2 fu) (z + 221) l1 l2 (nI i) t0 s.2) (fun r => ∃ l2 w, NRI R D c 1000000000 (fun t _ => t < nn R 1) l2 w ∧ W3 w r) := fun hno t0 ht0 => by
        have go : Rn (f_X5_nearestStart_148 N s.1 (f_X5_nearestStart_7 N s.1 s.2 fu) (z + 221) l1 l2 (nI i) s.2) (fun r => ∃ l2 w, NRI R D c 1000000000 (fun t _ => t < nn R 1) l2 w ∧ W3 w r) := by
          unfold f_X5_nearestStart_148
          rw [nI_1]
          refine ih l1 l2 w (by omega) (by omega) (hn.cg (fun t k n hc' => ⟨fun g => by omega, fun g => ?_⟩)) hw
          by_cases et : t = i
          · subst et
            rcases hc'.2.2.1 with q | ⟨q, -⟩
            · exact Or.inr ⟨rfl, q⟩
            · subst q
              exact (hno n hc').elim
          · exact Or.inl (by omega)
        unfold f_X5_nearestStart_87
        refine r_gP hK 221 5 10 233 rfl (by decide) ?_
        refine rn_eq (q_aT (ks_a hK 233 0 150 rfl) i rfl (by omega) (by decide)) ?_
        rw [d1]
        rcases ht0 with q | q
        · exact rn_ite (fun _ => go) (fun _ => rn_t q go)
        · exact rn_t (nI_le (b := 0) (by omega) (by omega)) go
      by_cases h5 : R (16 + 9 * i + 5) = 0
      · refine rn_f (fun q => q h5) ?_
        by_cases hD : 0 < D i
        · unfold f_X5_nearestStart_87
          refine r_gP hK 221 5 10 233 rfl (by decide) ?_
          refine rn_eq (q_aT (ks_a hK 233 0 150 rfl) i rfl (by omega) (by decide)) ?_
          rw [d1]
          refine rn_f (nI_ge (b := D i) (a := 0) hD (by omega)) ?_
          refine rn_f (by decide) ?_
          have st := hn.step (k := 1) (by decide) (by decide) ((hX.2.2.2 _ (hM i hi1 hD).2).2 c (by omega)) hi1 hD (Or.inr ⟨rfl, h5⟩) (fun t' k' g => by omega)
          have cg : ∀ {l3 w}, NRI R D c 1000000000 (fun a e => (a < i ∨ (a = i ∧ e = 0)) ∨ (a = i ∧ e = 1)) l3 w → NRI R D c 1000000000 (fun t _ => t < i + 1) l3 w := fun g => g.cg (fun t k n hc' => ⟨fun g => by omega, fun g => by
            rcases hc'.2.2.1 with e | e <;> omega⟩)
          refine r_gP hK 221 5 1 77 rfl (by decide) ?_
          refine r_gI hK (i := 221) (c := 5) rfl ?_
          rw [h.2.2.2.1]
          refine r_gP hK 221 5 7 231 rfl (by decide) ?_
          refine rn_eq (q_aT (ks_a hK 231 0 150 rfl) i rfl (by omega) (by decide)) ?_
          rw [pb]
          refine rn_eq (bt _ b2) ?_
          unfold f_X5_nearestStart_148
          rw [nI_1]
          refine rn_ite (fun q => ?_) (fun q => ?_)
          · exact ih l1 l2 w (by omega) (by omega) (cg (st.1 q)) hw
          · refine r_gP hK 221 5 1 77 rfl (by decide) ?_
            refine r_gI hK (i := 221) (c := 5) rfl ?_
            rw [h.2.2.2.1]
            refine r_gP hK 221 5 7 231 rfl (by decide) ?_
            refine rn_eq (q_aT (ks_a hK 231 0 150 rfl) i rfl (by omega) (by decide)) ?_
            rw [pb]
            refine rn_eq (bt _ b2) ?_
            have e2 : (2 : Int32) * nI i + 1 = nI (2 * i + 1) := by rw [show (2 : Int32) = nI 2 from rfl, pk_mul, nI_1]
            rw [e2]
            exact ih _ _ (some (i, 1)) (by omega) (by omega) (cg (st.2 q)) (Or.inr ⟨(i, 1), rfl, rfl⟩)
        · exact no (fun n g => hD g.2.1) 1 (Or.inr hD)
      · refine rn_t h5 ?_
        exact no (fun n g => by
          rcases g.2.2.1 with q | ⟨-, q⟩
          · exact absurd q (by decide)
          · exact h5 q) 0 (Or.inl rfl)
    unfold g_X5_nearestStart_7
    refine r_gI hK (i := 221) (c := 5) rfl ?_
    rw [h.2.2.1.1]
    refine rn_f (nI_ge hi1 (by omega)) ?_
    refine r_gP hK 221 5 10 233 rfl (by decide) ?_
    refine rn_eq (q_aT (ks_a hK 233 0 150 rfl) i rfl (by omega) (by decide)) ?_
    rw [d1]
    by_cases hD : 0 < D i
    · refine rn_f (nI_ge (b := D i) (a := 0) hD (by omega)) ?_
      have st := hn.step (k := 0) (by decide) (by decide) ((hX.2.2.2 _ (hM i hi1 hD).1).2 c (by omega)) hi1 hD (Or.inl rfl) (fun t' k' g => by omega)
      refine r_gP hK 221 5 1 77 rfl (by decide) ?_
      refine r_gI hK (i := 221) (c := 5) rfl ?_
      rw [h.2.2.2.1]
      refine r_gP hK 221 5 6 230 rfl (by decide) ?_
      refine rn_eq (q_aT (ks_a hK 230 0 150 rfl) i rfl (by omega) (by decide)) ?_
      rw [pa]
      refine rn_eq (bt _ a2) ?_
      refine rn_ite (fun q => two l1 l2 w (st.1 q) hw) (fun q => ?_)
      refine r_gP hK 221 5 1 77 rfl (by decide) ?_
      refine r_gI hK (i := 221) (c := 5) rfl ?_
      rw [h.2.2.2.1]
      refine r_gP hK 221 5 6 230 rfl (by decide) ?_
      refine rn_eq (q_aT (ks_a hK 230 0 150 rfl) i rfl (by omega) (by decide)) ?_
      rw [pa]
      refine rn_eq (bt _ a2) ?_
      have e2 : (2 : Int32) * nI i = nI (2 * i + 0) := pk_mul 2 i
      rw [e2]
      exact two _ _ (some (i, 0)) (st.2 q) (Or.inr ⟨(i, 0), rfl, rfl⟩)
    · refine rn_t (nI_le (b := 0) (by omega) (by omega)) ?_
      refine two l1 l2 w (hn.cg (fun t k n hc' => ⟨fun g => Or.inl g, fun g => ?_⟩)) hw
      rcases g with g | ⟨g, -⟩
      · exact g
      · subst g
        exact absurd hc'.2.1 hD
theorem k_nearestStart (hN2 : 300 ≤ N) (hN : WN R) (hW : WS R) (hc : c < nn R 0) (h : KP s z ow R T D c l Lp L M) (hM : ∀ t, t < nn R 1 → 0 < D t → M (eA R t) ∧ M (eB R t)) : Rn (f_X5_nearestStart N s.1 (z + 221) s.2) (fun r => (r = -1 ∧ ¬ ∃ t k, nrB R D c t k) ∨ (r = nI (2 * (nrX R D c).1 + (nrX R D c).2) ∧ (∃ t k, nrB R D c t k) ∧ nrB R D c (nrX R D c).1 (nrX R D c).2)) := by
  unfold f_X5_nearestStart
  refine rn_t (ks_o h.1 221 5 rfl) ?_
  refine rn_mono (ns_loop hN2 hN hW hc h hM (nn R 1) 0 N (-1) 1000000000 none (by omega) (by have := hN.2.1.2; omega) (Or.inl ⟨rfl, rfl, fun t k n g _ => absurd g (Nat.not_lt_zero t)⟩) (Or.inl ⟨rfl, rfl⟩)) (fun r hr => ?_)
  obtain ⟨l2, w, g1, g2⟩ := hr
  rcases g1.fin (fun t k n g => g.1) with ⟨q1, q2⟩ | ⟨q1, q2, q3⟩
  · left
    rcases g2 with ⟨-, q⟩ | ⟨q, q4, -⟩
    · exact ⟨q, q2⟩
    · rw [q1] at q4
      cases q4
  · right
    rcases g2 with ⟨q, -⟩ | ⟨q, q4, q5⟩
    · rw [q1] at q
      cases q
    · rw [q1] at q4
      have e := Option.some.inj q4
      rw [← e] at q5
      exact ⟨q5, q2, q3⟩
end KNR
/-! 9zf.kone.lean.txt -/
/-! planOneWays of the class -/
section KOW
variable {s s' s0 s1 : AS} {sh : Sh} {d d0 d' : Dt} {z : Nat} {ow ow' ow0 : Nat → Nat} {R K : Nat → Int32} {u : Bool} {y : YL} {N n m k i j c p q x e v a b t cc tot : Nat} {T T' D L Lp Lp0 Lp' : Nat → Nat} {M : Nat → Prop} {l : List (Nat × Nat × Nat)} {Q : Int32 × AS → Prop}
def ONQ (s0 : AS) (z : Nat) (ow0 : Nat → Nat) (R : Nat → Int32) (Lp0 L : Nat → Nat) (M : Nat → Prop) (o : Int32 × List (Nat × Nat × Nat)) (r : Int32 × AS) : Prop := r.1 = o.1 ∧ GRA s0 z ow0 R Lp0 L M r.2 ∧ (o.1 = 0 → ∃ T D c, GRQ s0 z ow0 R T D c o.2 Lp0 L M r.2)
theorem on_stop {k49 : Nat → Int32 → Int32 → Int32 → AS → Option (Int32 × AS)} {l1 l3 v : Int32} (hv : v ≠ 0) : g_X5_planOneWays_49 N k49 (z + 221) l1 v l3 s = some (v, s) := by
  refine rn_val ?_
  have fin : Rn (f_X5_planOneWays_126 N (z + 221) v s) (fun r => r = (v, s)) := by
    unfold f_X5_planOneWays_126 f_X5_planOneWays_139
    exact rn_f hv (rn_some rfl)
  unfold g_X5_planOneWays_49
  exact rn_ite (fun _ => fin) (fun _ => rn_t hv fin)
theorem div2 {t k : Nat} (ht : t < 2 ^ 20) (hk : k < 2) : o_idiv (nI (2 * t + k)) 2 = some (nI t) ∧ o_irem (nI (2 * t + k)) 2 = some (nI k) := by
  constructor
  · unfold o_idiv
    rw [if_neg (by decide), show (2 : Int32) = nI 2 from rfl, pk_div (by omega) (by decide) (by decide)]
    congr 2
    omega
  · unfold o_irem
    rw [if_neg (by decide), show (2 : Int32) = nI 2 from rfl, pk_rem (by omega) (by decide) (by decide)]
    congr 2
    omega
theorem kno_loop (hN2 : 300 ≤ N) (hN : WN R) (hW : WS R) (hM0 : M 0) (ht0 : tot < 2 ^ 20) : ∀ (m k fu c : Nat) (D : Nat → Nat) (l : List (Nat × Nat × Nat)) (s : AS), k + m = tot → smN D (nn R 1) = m → m + 1 < fu → c < nn R 0 → (∀ t, t < nn R 1 → 0 < D t → M (eA R t) ∧ M (eB R t)) → GRQ s0 z ow0 R T D c l Lp0 L M s → Rn (f_X5_planOneWays_49 N fu (z + 221) (nI tot) 0 (nI k) s) (ONQ s0 z ow0 R Lp0 L M (nrF R m D c l))
  | m, k, fu, c, D, l, s, hk, hm, hf, hc, hM, h => by
    obtain ⟨fu, rfl⟩ : ∃ q, fu = q + 1 := ⟨fu - 1, by omega⟩
    have n0 := hN.1.2
    have n1 := hN.2.1.2
    obtain ⟨ow, Lp, es, kp, hl, m1, m2⟩ := id h
    have hK := kp.1
    show Rn (g_X5_planOneWays_49 N (f_X5_planOneWays_49 N fu) (z + 221) (nI tot) 0 (nI k) s) _
    unfold g_X5_planOneWays_49
    cases m with
    | zero =>
      refine rn_t (nI_le (by omega) (by omega)) ?_
      unfold f_X5_planOneWays_126 f_X5_planOneWays_139
      refine rn_t rfl ?_
      refine rn_bind (k_driveTo (b := 0) hN2 hN hW (by omega) hM0 hc h) (fun r hr => rn_some ?_)
      show ONQ s0 z ow0 R Lp0 L M (nrE R c l) (r.1, r.2)
      unfold nrE
      rcases hr with ⟨g1, ⟨g2, g3, g4⟩ | ⟨g2, g3, g4⟩⟩ | ⟨g1, g2, g3⟩
      · rw [ite_p g1, if_pos g3]
        exact ⟨g2, g4.any, fun _ => ⟨T, D, 0, g4⟩⟩
      · rw [ite_p g1, if_neg (by omega)]
        exact ⟨g2, g4, fun q => absurd (show (-3 : Int32) = 0 from q) (by decide)⟩
      · rw [ite_n g1]
        exact ⟨g2, g3, fun q => absurd (show (-8 : Int32) = 0 from q) (by decide)⟩
    | succ m =>
      refine rn_f (nI_ge (by omega) (by omega)) ?_
      refine rn_f (fun q => q rfl) ?_
      refine rn_bind (k_nearestStart hN2 hN hW hc kp hM) (fun r hr => ?_)
      rcases hr with ⟨g1, g2⟩ | ⟨g1, g2, g3⟩
      · refine rn_f (fun q => q g1) ?_
        unfold f_X5_planOneWays_70
        have e : nrF R (m + 1) D c l = (-8, []) := ite_n g2
        rw [e]
        exact rn_some ⟨rfl, h.any, fun q => absurd (show (-8 : Int32) = 0 from q) (by decide)⟩
      · obtain ⟨b1, b2, b3, ⟨n, b4⟩, b5⟩ := nrB_ld hW hN g3
        have hkk : (nrX R D c).2 = 0 ∨ ((nrX R D c).2 = 1 ∧ R (16 + 9 * (nrX R D c).1 + 5) = 0) := by
          obtain ⟨n', q1, -⟩ := g3
          exact q1.2.2.1
        have e : nrF R (m + 1) D c l = _ := ite_p g2
        rw [e]
        rw [g1]
        refine rn_t (nI_m1 (by omega)) ?_
        have dv := div2 (t := (nrX R D c).1) (k := (nrX R D c).2) (by omega) (by omega)
        refine rn_eq dv.1 ?_
        refine rn_eq dv.2 ?_
        obtain ⟨pa, pb, -, -⟩ := kp.2.2.1.2 _ b2
        have hMb : M (bgn R (nrX R D c).1 (nrX R D c).2) := by
          have q := hM _ b2 b3
          unfold bgn
          split
          · exact q.1
          · exact q.2
        have hbl := bgn_lt (k := (nrX R D c).2) hW hN b2
        have main : Rn (f_X5_planOneWays_104 N (f_X5_planOneWays_49 N fu) (z + 221) (nI tot) (nI k) (nI (nrX R D c).1) (z + 221) (nI (bgn R (nrX R D c).1 (nrX R D c).2)) s) (ONQ s0 z ow0 R Lp0 L M (if (nrL R D c l).length ≤ 2000 then nrF R m (dec1 D (nrX R D c).1) (oth R (nrX R D c).1 (bgn R (nrX R D c).1 (nrX R D c).2)) (nrL R D c l) else (-3, []))) := by
          have enl : (nrL R D c l).length = (l ++ emL R (bgn R (nrX R D c).1 (nrX R D c).2) 60 c).length + 1 := by
            unfold nrL
            rw [List.length_append]
            rfl
          obtain ⟨fu, rfl⟩ : ∃ q, fu = q + 1 := ⟨fu - 1, by omega⟩
          have stop : ∀ s9, GRA s0 z ow0 R Lp0 L M s9 → 2000 < (nrL R D c l).length → Rn (f_X5_planOneWays_49 N (fu + 1) (z + 221) (nI tot) (-3) (nI k + 1) s9) (ONQ s0 z ow0 R Lp0 L M (if (nrL R D c l).length ≤ 2000 then nrF R m (dec1 D (nrX R D c).1) (oth R (nrX R D c).1 (bgn R (nrX R D c).1 (nrX R D c).2)) (nrL R D c l) else (-3, []))) := fun s9 g9 hlen => by
            rw [if_neg (by omega)]
            show Rn (g_X5_planOneWays_49 N (f_X5_planOneWays_49 N fu) (z + 221) (nI tot) (-3) (nI k + 1) s9) _
            rw [on_stop (by decide)]
            exact rn_some ⟨rfl, g9, fun q => absurd (show (-3 : Int32) = 0 from q) (by decide)⟩
          unfold f_X5_planOneWays_104 f_X5_planOneWays_107 f_X5_planOneWays_119 f_X5_planOneWays_120
          refine rn_bind (k_driveTo hN2 hN hW hbl hMb hc h) (fun r9 hr9 => ?_)
          rcases hr9 with ⟨-, ⟨y2, y3, y4⟩ | ⟨y2, y3, y4⟩⟩ | ⟨y1, -, -⟩
          · refine rn_f (fun q => q y2) ?_
            obtain ⟨ow2, Lp2, es2, kp2, hl2, j1, j2⟩ := id y4
            refine rn_bind (k_addDrive (v := 1) (by decide) (fun _ => b3) hN2 hN hW b2 (by omega) hl2 kp2) (fun rA hA => ?_)
            rcases hA with ⟨w1, w2⟩ | ⟨w1, w2, ow3, Lp3, es3, kp3, x1, x2⟩
            · rw [w2]
              exact stop _ y4.any (by omega)
            · rw [w2, if_pos (by omega), nI_1]
              have x1 : rA.2.1.1.2.2 + 2 * smN Lp2 4 ≤ r9.2.1.1.2.2 + 2 * smN Lp3 4 := x1
              have x2 : 4 * rA.2.1.1.2.1 + smN Lp2 4 ≤ 4 * r9.2.1.1.2.1 + smN Lp3 4 := x2
              have kp3 : KP rA.2 z ow3 R T (dec1 D (nrX R D c).1) (oth R (nrX R D c).1 (bgn R (nrX R D c).1 (nrX R D c).2)) (nrL R D c l) Lp3 L M := kp3
              have hsm := dec_sm (T := D) b2 b3
              exact kno_loop hN2 hN hW hM0 ht0 m (k + 1) (fu + 1) _ _ _ rA.2 (by omega) (by omega) (by omega) b5 (fun t ht hp => hM t ht (Nat.lt_of_lt_of_le hp dec_le)) ⟨ow3, Lp3, es_tr es2 es3, kp3, by omega, by omega, by omega⟩
          · refine rn_t (by rw [y2]; decide) ?_
            rw [y2]
            exact stop _ y4 (by omega)
          · exact absurd ⟨n, b4⟩ y1
        rcases hkk with q | ⟨q, -⟩
        · refine rn_f (fun r => r (by rw [q]; rfl)) ?_
          refine r_gP hK 221 5 6 230 rfl (by decide) ?_
          refine rn_eq (q_aT (ks_a hK 230 0 150 rfl) (nrX R D c).1 rfl (by omega) (by decide)) ?_
          rw [pa]
          have eb : bgn R (nrX R D c).1 (nrX R D c).2 = eA R (nrX R D c).1 := if_pos q
          rw [eb] at main ⊢
          exact main
        · refine rn_t (by rw [q]; decide) ?_
          refine r_gP hK 221 5 7 231 rfl (by decide) ?_
          refine rn_eq (q_aT (ks_a hK 231 0 150 rfl) (nrX R D c).1 rfl (by omega) (by decide)) ?_
          rw [pb]
          have eb : bgn R (nrX R D c).1 (nrX R D c).2 = eB R (nrX R D c).1 := if_neg (by omega)
          rw [eb] at main ⊢
          exact main
theorem osum_loop (hK : KS s.1 z) (h8 : s.2.1 (z + 221) 8 = nI (nn R 1)) (hN : WN R) (hV : ∀ t, t < nn R 1 → s.2.1 (z + 233) t = nI (D t)) (hk : Rn (f_X5_planOneWays_45 N (z + 221) (nI (smN D (nn R 1))) s) Q) : ∀ (m i fu : Nat), i + m = nn R 1 → m < fu → Rn (f_X5_planOneWays_22 N fu (z + 221) (nI (smN D i)) (nI i) s) Q
  | 0, i, fu, hi, hf => by
    obtain ⟨fu, rfl⟩ : ∃ q, fu = q + 1 := ⟨fu - 1, by omega⟩
    have n1 := hN.2.1.2
    show Rn (g_X5_planOneWays_22 N (f_X5_planOneWays_22 N fu) (z + 221) (nI (smN D i)) (nI i) s) _
    unfold g_X5_planOneWays_22
    refine r_gI hK (i := 221) (c := 5) rfl ?_
    rw [h8]
    refine rn_t (nI_le (by omega) (by omega)) ?_
    have e : i = nn R 1 := by omega
    rw [e]
    exact hk
  | m + 1, i, fu, hi, hf => by
    obtain ⟨fu, rfl⟩ : ∃ q, fu = q + 1 := ⟨fu - 1, by omega⟩
    have n1 := hN.2.1.2
    show Rn (g_X5_planOneWays_22 N (f_X5_planOneWays_22 N fu) (z + 221) (nI (smN D i)) (nI i) s) _
    unfold g_X5_planOneWays_22
    refine r_gI hK (i := 221) (c := 5) rfl ?_
    rw [h8]
    refine rn_f (nI_ge (by omega) (by omega)) ?_
    refine r_gP hK 221 5 10 233 rfl (by decide) ?_
    refine rn_eq (q_aT (ks_a hK 233 0 150 rfl) i rfl (by omega) (by decide)) ?_
    rw [hV i (by omega), nI_add, nI_1]
    exact osum_loop hK h8 hN hV hk m (i + 1) fu (by omega) (by omega)
theorem k_planOneWays (hNf : 20000 ≤ N) (h : CI s z ow R K u y cc) (hR : WF R) (h00 : 0 < nn R 0) : Rn (f_X5_planOneWays N (z + 221) s) (PBQ s z R K u cc (nbR R)) := by
  have hK := h.1
  have hw := h.2.1
  have hN := hR.1
  have hW := hR.2.2.1
  have n0 := hN.1.2
  have n1 := hN.2.1.2
  obtain ⟨⟨S, V, h4, h5⟩, h6⟩ := h.2.2.2.2.1.2.1
  unfold f_X5_planOneWays
  refine rn_t (ks_o hK 221 5 rfl) ?_
  refine rn_bind (k_begin (by omega) hK hN hW hw h.2.2.1.2.1) (fun d1 h1 => ?_)
  obtain ⟨f1, P1, c12, c222, D1⟩ := h1
  have es1 : ES (IX z ow 221 234) s ow (s.1, d1) ow := FD.es (sh := s.1) (d := s.2) (f1.fd hw)
  have t0 : TB s.1 d1 z ow 222 4 0 (vL R []) y.2.2.1 := tb_zero h4 f1.1 c222
  have c1 := ci_pln h es1 ⟨0, _, t0, by decide⟩ h6 (Nat.le_refl _) (Nat.le_refl _)
  refine r_gP hK 221 5 1 77 rfl (by decide) ?_
  refine rn_bind (k_look (by omega) hK hN hW P1) (fun r2 h2 => ?_)
  obtain ⟨n2, l1, l2⟩ := h2
  have c2 := ci_pf c1.1 n2.pf
  have t2 : TB s.1 r2.2 z ow 222 4 0 (vL R []) y.2.2.1 := tb_ix (s := (s.1, d1)) (s' := (s.1, r2.2)) t0 hK hw (by decide) (FD.es (sh := s.1) (d := d1) (n2.pf.fd hw)) (by omega)
  have b1 : ∀ v, bit (1 : Int64) v = true ↔ 0 = v := fun v => by
    have : (1 : Int64) = bt 0 := by decide
    rw [this, bit_bt (by decide), decide_eq_true_iff]
  have hgo : ∀ j, bit (r2.1 ||| 1) j = true → j < nn R 0 := fun j hj => by
    rw [bit_or, Bool.or_eq_true] at hj
    rcases hj with q | q
    · obtain ⟨t, w1, w2, w3⟩ := (l2 j).mp q
      obtain ⟨-, a2, -, b2, -⟩ := ws_e hW hN w1
      omega
    · have := (b1 j).mp q
      omega
  refine rn_bind (ci_each (s := (s.1, r2.2)) (by omega) c2.1 hR hgo) (fun d3 h3 => ?_)
  obtain ⟨c3, f3, q1, q2, q3, q4, q5⟩ := h3
  have es3 : ES (IX z ow 77 200) (s.1, r2.2) ow (s.1, d3) ow := FD.es (sh := s.1) (d := r2.2) (q1.fd hw)
  have r3 : ∀ i, i = 221 ∨ (230 ≤ i ∧ i ≤ 233) → d3.1 (z + i) = d1.1 (z + i) := fun i hi => by
    have e := (es_row (s := (s.1, r2.2)) (s' := (s.1, d3)) hK hw es3 (i := i) (by
      have : i = 221 ∨ i = 230 ∨ i = 231 ∨ i = 232 ∨ i = 233 := by omega
      rcases this with rfl | rfl | rfl | rfl | rfl <;> decide) (by omega)).1
    exact e.trans (congrFun n2.1 (z + i))
  have P3 : PL d3 z R (T0 R) := by
    refine ⟨?_, fun t ht => ?_⟩
    · rw [r3 221 (by omega)]
      exact P1.1
    · rw [r3 230 (by omega), r3 231 (by omega), r3 232 (by omega)]
      exact P1.2 t ht
  have X3 : WX s.1 d3 z ow R y.1.1 (fun b => bit (r2.1 ||| 1) b = true) := ⟨c3.spn, c3.2.2.1.2.1, q3, fun b hb => ⟨hgo b hb, fun a ha => q4 b (by have := hgo b hb; omega) (q5 b hb) a ha⟩⟩
  have D3 : ∀ t, t < nn R 1 → d3.1 (z + 233) t = nI (T0 R t) := fun t ht => by rw [r3 233 (by omega)]; exact D1 t ht
  have kp3 : KP (s.1, d3) z ow R (T0 R) (T0 R) 0 [] y.2.2.1 y.1.1 (fun b => bit (r2.1 ||| 1) b = true) := ⟨hK, hw, P3, by rw [r3 221 (by omega)]; exact c12, fun t ht => ⟨D3 t ht, by have := T0_le hW ht; omega⟩, tb_ix (s := (s.1, r2.2)) (s' := (s.1, d3)) t2 hK hw (by decide) es3 (by omega), h6, X3⟩
  have F3 : RFR z s (s.1, d3) := (c1.2.tr c2.2).tr f3
  have sb : smN (T0 R) (nn R 1) ≤ smN (fun _ => 2) (nn R 1) := smN_le _ (fun k hk => T0_le hW hk)
  rw [smN_const] at sb
  refine osum_loop (s := (s.1, d3)) (D := T0 R) hK P3.1 hN D3 ?_ (nn R 1) 0 N (by omega) (by omega)
  unfold f_X5_planOneWays_45
  refine rn_mono (kno_loop (s0 := (s.1, d3)) (ow0 := ow) (T := T0 R) (Lp0 := y.2.2.1) (by omega) hN hW (by show bit (r2.1 ||| 1) 0 = true; rw [bit_or, (b1 0).mpr rfl, Bool.or_true]) (by omega) (smN (T0 R) (nn R 1)) 0 N 0 (T0 R) [] (s.1, d3) (by omega) rfl (by omega) h00 (fun t ht hp => ?_) (GRQ.rf kp3 (by decide))) (fun r hr => ?_)
  · have w : ∀ v, eA R t = v ∨ eB R t = v → bit (r2.1 ||| 1) v = true := fun v hv => by
      rw [bit_or, (l2 v).mpr ⟨t, ht, hp, hv⟩, Bool.true_or]
    exact ⟨w _ (Or.inl rfl), w _ (Or.inr rfl)⟩
  · obtain ⟨g1, ⟨T9, D9, c9, l9, ow9, Lp9, e9, k9, len9, m1, m2⟩, g3⟩ := hr
    by_cases h0 : (nbR R).1 = 0
    · obtain ⟨T8, D8, c8, ow8, Lp8, e8, k8, len8, x1, x2⟩ := g3 h0
      have c11 := ci_pln (s := (s.1, d3)) c3 e8 ⟨_, _, k8.2.2.2.2.2.1, len8⟩ k8.2.2.2.2.2.2.1 x1 x2
      exact ⟨g1, F3.tr c11.2, ow8, _, c11.1, fun _ => k8.2.2.2.2.2.1⟩
    · have c11 := ci_pln (s := (s.1, d3)) c3 e9 ⟨_, _, k9.2.2.2.2.2.1, len9⟩ k9.2.2.2.2.2.2.1 m1 m2
      exact ⟨g1, F3.tr c11.2, ow9, _, c11.1, fun q => absurd q h0⟩
end KOW
/-! 9zg.kround.lean.txt -/
/-! round() of the class -/
section CC2
variable {s : AS} {z : Nat} {ow : Nat → Nat} {R K : Nat → Int32} {u : Bool} {y : YL} {c N : Nat}
theorem ci_change2 (hNf : 30 ≤ N) (h : CI s z ow R K u y c) (hN : WN R) (hG : WG R) (hNK : WN K) : Rn (f_X11_change N z s) (fun s' => RFR z s s' ∧ s'.2.1 (z + 77) 5 = 0 ∧ s'.2.1 (z + 201) 4 = 0 ∧ s'.2.1 (z + 201) 7 = 0 ∧ ∃ ow' q1, CI s' z ow' R R true (y.1, q1, y.2.2) c ∧ ∀ S V, TB s.1 s.2 z ow 222 4 S V y.2.2.1 → TB s'.1 s'.2 z ow' 222 4 S V y.2.2.1) := by
  obtain ⟨hK, hw, h1, h2, h3, h4, h5, h6, h7, h8, h9, h10, h11⟩ := id h
  refine rn_mono (k_change hNf hK hw hNK hN hG h1 h2) (fun s' hs => ?_)
  obtain ⟨ow1, q1, s1, e1, x1, x2, rfl, w1, m1⟩ := hs
  have hK1 := KS.es hK e1
  have hw1 := OWS.es hw hK e1
  have f1 := RFR.ix hK hw e1 (by omega)
  have c3 := cs_ix h3 hK hw e1 (by omega)
  have p4 := pb_ix h4 hK hw e1 (by omega) (by omega)
  have o0 := hw1 0 (by decide) (by decide)
  have o77 := hw1 77 (by decide) (by decide)
  have o201 := hw1 201 (by decide) (by decide)
  have d1 : FD (IX z ow1 0 0) s1.2 (wI s1.2 z 13 1) := by
    have := fd_ix (d := s1.2) (k := 13) (v := 1) (i := 0) (by decide) o0
    exact this
  have d2 : FD (IX z ow1 77 77) (wI s1.2 z 13 1) (wI (wI s1.2 z 13 1) (z + 77) 5 0) := fd_ix (by decide) o77
  have d3 : FD (IX z ow1 201 201) (wI (wI s1.2 z 13 1) (z + 77) 5 0) (wI (wI (wI (wI s1.2 z 13 1) (z + 77) 5 0) (z + 201) 4 0) (z + 201) 7 0) := (fd_ix (by decide) o201).tr (fd_ix (by decide) o201)
  have g1 := FD.es (sh := s1.1) (ow := ow1) d1
  have g2 := FD.es (sh := s1.1) (ow := ow1) d2
  have g3 := FD.es (sh := s1.1) (ow := ow1) d3
  have r0 : (wI (wI (wI (wI s1.2 z 13 1) (z + 77) 5 0) (z + 201) 4 0) (z + 201) 7 0).1 (z + 0) = va_up (s1.2.1 (z + 0)) 13 1 := by
    rw [wI_n (by omega), wI_n (by omega), wI_n (by omega)]
    exact wI_s
  have r77 : (wI (wI (wI (wI s1.2 z 13 1) (z + 77) 5 0) (z + 201) 4 0) (z + 201) 7 0).1 (z + 77) 5 = 0 := by
    rw [wI_n (by omega), wI_n (by omega), wI_s, va_up_s]
  have r201 : (wI (wI (wI (wI s1.2 z 13 1) (z + 77) 5 0) (z + 201) 4 0) (z + 201) 7 0).1 (z + 201) 4 = 0 ∧ (wI (wI (wI (wI s1.2 z 13 1) (z + 77) 5 0) (z + 201) 4 0) (z + 201) 7 0).1 (z + 201) 7 = 0 := by
    rw [wI_s, va_up_n (by decide), va_up_s, wI_s, va_up_s]
    exact ⟨rfl, rfl⟩
  have x1 := bk_ix (bk_ix (bk_ix x1 (Or.inr rfl) hK1 hw1 g1 (by omega)) (Or.inr rfl) hK1 hw1 g2 (by omega)) (Or.inr rfl) hK1 hw1 g3 (by omega)
  have x2 := bk_ix (bk_ix (bk_ix x2 (Or.inl rfl) hK1 hw1 g1 (by omega)) (Or.inl rfl) hK1 hw1 g2 (by omega)) (Or.inl rfl) hK1 hw1 g3 (by omega)
  have p4 := pb_ix (pb_ix (pb_ix p4 hK1 hw1 g1 (by omega) (by omega)) hK1 hw1 g2 (by omega) (by omega)) hK1 hw1 g3 (by omega) (by omega)
  have f2 := (RFR.ix hK1 hw1 g1 (by omega)).tr ((RFR.ix (s := (s1.1, wI s1.2 z 13 1)) hK1 hw1 g2 (by omega)).tr (RFR.ix (s := (s1.1, wI (wI s1.2 z 13 1) (z + 77) 5 0)) hK1 hw1 g3 (by omega)))
  refine ⟨f1.tr f2, r77, r201.1, r201.2, ow1, q1, ⟨hK1, hw1, x2, x1, ?_, p4, p4, Or.inl r77, Or.inl r201.1, Or.inl r201.2, ?_, ?_, ?_, tln_0 r201.2⟩, fun S V ht => tb_ix (tb_ix (tb_ix (tb_ix ht hK hw (by decide) e1 (by omega)) hK1 hw1 (by decide) g1 (by omega)) hK1 hw1 (by decide) g2 (by omega)) hK1 hw1 (by decide) g3 (by omega)⟩
  · obtain ⟨⟨k1, k2, k3⟩, ⟨⟨S, V, k4, k5⟩, k6⟩, k7, b, g, b1, b2, b3, b4, b5, b6, b7, b8, b9⟩ := c3
    have k4 := tb_ix (tb_ix (tb_ix k4 hK1 hw1 (by decide) g1 (by omega)) hK1 hw1 (by decide) g2 (by omega)) hK1 hw1 (by decide) g3 (by omega)
    have nb : ∀ i, i < 264 → ow1 (z + i) = 0 → b ≠ z + i := fun i _ h0 e => by
      rw [e, h0] at b2
      omega
    refine ⟨⟨k1, k2, k3⟩, ⟨⟨S, V, k4, k5⟩, k6⟩, k7, b, g, b1, b2, b3, b4, b5, b6, ?_, b8, fun i hi => ?_⟩
    · show (wI (wI (wI (wI s1.2 z 13 1) (z + 77) 5 0) (z + 201) 4 0) (z + 201) 7 0).1 (z + 0) 12 = nI g
      rw [r0, va_up_n (by decide)]
      exact b7
    · show fits .char (.int ((wI (wI (wI (wI s1.2 z 13 1) (z + 77) 5 0) (z + 201) 4 0) (z + 201) 7 0).1 b i)) = true
      rw [wI_n (nb 201 (by decide) o201), wI_n (nb 201 (by decide) o201), wI_n (nb 77 (by decide) o77), wI_n (a := z) (nb 0 (by decide) o0)]
      exact b9 i hi
  · show (wI (wI (wI (wI s1.2 z 13 1) (z + 77) 5 0) (z + 201) 4 0) (z + 201) 7 0).1 (z + 0) 13 = 1
    rw [r0, va_up_s]
  · show s1.1.1.2.2 ≤ 75638 + 2 * (pot y.1 + pot q1 + smN y.2.2.1 4 + y.2.2.2.1 + y.2.2.2.2) + 5 * c
    omega
  · have h11 := h11.1
    show 4 * s1.1.1.2.1 ≤ 4 * (z + 264) + (pot y.1 + pot q1 + smN y.2.2.1 4 + 4 * y.2.2.2.1 + y.2.2.2.2) + 4 * c
    omega
end CC2
/-- DRIVES along STREETS -/
def VL (R : Nat → Int32) (l : List (Nat × Nat × Nat)) : Prop := ∀ e, e ∈ l → e.1 < nn R 1 ∧ (eA R e.1 = e.2.1 ∨ eB R e.1 = e.2.1) ∧ e.2.2 ≤ 1
/-- R1, with the parts of the first PLOUGHS lost -/
def rdL (R1 : Nat → Int32) : Nat → (Nat → Int32)
  | 0 => R1
  | p + 1 => lpR (rdL R1 p) p
section KRD
variable {s s' s0 s1 : AS} {sh : Sh} {d d0 d' : Dt} {z : Nat} {ow ow' : Nat → Nat} {R R' R1 K : Nat → Int32} {u : Bool} {y : YL} {N n m k i j c p q x e v a b t cc : Nat} {T D L Lp : Nat → Nat} {l : List (Nat × Nat × Nat)} {w : BL}
theorem drA_vl : ∀ (k : Nat) (T : Nat → Nat) (c : Nat) (D : Nat → Nat), VL R (drA R k T c D)
  | 0, _, _, _ => fun e he => by cases he
  | k + 1, T, c, D => fun e he => by
    by_cases h : ∃ s, lvS R T c s
    · rw [show drA R (k + 1) T c D = _ from ite_p h] at he
      rcases List.mem_cons.mp he with q | q
      · have g := (lvN_ok h).1
        rw [q]
        refine ⟨g.1, g.2.2.1, ?_⟩
        show (if 0 < D (lvN R T c) then 1 else 0) ≤ 1
        split <;> omega
      · exact drA_vl k _ _ _ e q
    · rw [show drA R (k + 1) T c D = _ from ite_n h] at he
      cases he
theorem emL_vl (hW : WS R) (hN : WN R) : ∀ (k u : Nat), rk R b k u → u < 2 ^ 31 → VL R (emL R b k u)
  | 0, _, _, _ => fun e he => by cases he
  | k + 1, u, hr, hu => fun e he => by
    by_cases h : u = b
    · rw [show emL R b (k + 1) u = [] from if_pos h] at he
      cases he
    · rw [show emL R b (k + 1) u = _ from if_neg h] at he
      rcases hr with hr | ⟨-, hx, hr⟩
      · exact absurd hr h
      obtain ⟨h1, ⟨h2, h3, h4⟩, -⟩ := hx.1
      have n0 := hN.1.2
      rcases List.mem_cons.mp he with q | q
      · rw [q]
        obtain ⟨e7, a2, e8, b2, hne⟩ := ws_e hW hN h2
        refine ⟨h2, ?_, Nat.zero_le _⟩
        show eA R (nxt R b u).1 = u ∨ eB R (nxt R b u).1 = u
        rcases h4 with ⟨q1, -⟩ | ⟨-, q1, -⟩
        · exact Or.inl (nI_inj (e7.symm.trans q1) (by omega) hu)
        · exact Or.inr (nI_inj (e8.symm.trans q1) (by omega) hu)
      · exact emL_vl hW hN k _ hr (by omega) e q
theorem vl_app {l l' : List (Nat × Nat × Nat)} (h : VL R l) (h' : VL R l') : VL R (l ++ l') := fun e he => (List.mem_append.mp he).elim (h e) (h' e)
theorem nrE_vl (hW : WS R) (hN : WN R) (hc : c < nn R 0) (h : VL R l) : VL R (nrE R c l).2 := by
  have n0 := hN.1.2
  have nil : VL R [] := fun e he => by cases he
  unfold nrE
  by_cases h1 : ∃ n, dst R c 0 n
  · rw [ite_p h1]
    obtain ⟨n, h1⟩ := h1
    split
    · exact vl_app h (emL_vl hW hN 60 c (rk_60 hW hN h1) (by omega))
    · exact nil
  · rw [ite_n h1]
    exact nil
theorem nrF_vl (hW : WS R) (hN : WN R) : ∀ (m : Nat) (D : Nat → Nat) (c : Nat) (l : List (Nat × Nat × Nat)), c < nn R 0 → VL R l → VL R (nrF R m D c l).2
  | 0, _, c, l, hc, h => nrE_vl hW hN hc h
  | m + 1, D, c, l, hc, h => by
    have n0 := hN.1.2
    have nil : VL R [] := fun e he => by cases he
    by_cases h1 : ∃ t k, nrB R D c t k
    · rw [show nrF R (m + 1) D c l = _ from ite_p h1]
      obtain ⟨t, k, hb⟩ := h1
      have ex := nrX_eq hb
      obtain ⟨b1, b2, b3, ⟨n, b4⟩, b5⟩ := nrB_ld hW hN (t := (nrX R D c).1) (k := (nrX R D c).2) (by rw [ex]; exact hb)
      split
      · refine nrF_vl hW hN m _ _ _ b5 (vl_app (vl_app h (emL_vl hW hN 60 c (rk_60 hW hN b4) (by omega))) (fun e he => ?_))
        rw [List.mem_singleton.mp he]
        refine ⟨b2, ?_, Nat.le_refl _⟩
        unfold bgn
        split
        · exact Or.inl rfl
        · exact Or.inr rfl
      · exact nil
    · rw [show nrF R (m + 1) D c l = _ from ite_n h1]
      exact nil
theorem rdR_vl (hR : WF R) : VL R (rdR R).2 := by
  have nil : VL R [] := fun e he => by cases he
  unfold rdR
  by_cases hB : BW R
  · rw [ite_p hB]
    unfold pbR
    cases hj : joinF R 60 (T0 R) with
    | none => exact nil
    | some T' =>
      show VL R (if smN (tsP R T') (nn R 1) ≤ 2000 then ((0 : Int32), drA R 2000 (tsP R T') 0 (T0 R)) else (-3, [])).2
      split
      · exact drA_vl _ _ _ _
      · exact nil
  · rw [ite_n hB]
    have h0 : 0 < nn R 0 := by
      rcases Nat.eq_zero_or_pos (nn R 0) with q | q
      · refine absurd (fun s hs _ => ?_) hB
        obtain ⟨-, a2, -⟩ := ws_e hR.2.2.1 hR.1 hs
        omega
      · exact q
    exact nrF_vl hR.2.2.1 hR.1 _ _ _ _ h0 nil
theorem getD_mem {l : List (Nat × Nat × Nat)} (h : i < l.length) : l.getD i (0, 0, 0) ∈ l := by
  rw [List.getD_eq_getElem?_getD, List.getElem?_eq_getElem h]
  exact List.getElem_mem h
/-- the books behind a ROUND are well made -/
theorem wf_rnd (hR : WF R) (hl : VL R l) (hn : l.length ≤ 2000) (h : RND R l R') : WF R' := by
  obtain ⟨⟨n0, n1, n2, n3, n4⟩, hG, hW, hC, hP, hD⟩ := hR
  obtain ⟨r1, r4, rd, rp⟩ := h
  have e : ∀ k, k < 4 ∨ (8 < k ∧ k < 9426) → nn R' k = nn R k := fun k hk => by unfold nn; rw [r1 k hk]
  have e4 : nn R' 4 = l.length := by unfold nn; rw [r4, nI_clamp (by omega)]
  have e0 := e 0 (by omega)
  have e1 := e 1 (by omega)
  have e2 := e 2 (by omega)
  have e3 := e 3 (by omega)
  have eP : ∀ p, p < nn R 3 → ∀ x, x < 5 → R' (9426 + 13 * p + x) = R (9426 + 13 * p + x) := fun p hp x hx => by
    rw [rp p hp x (by omega), if_neg (by omega)]
  have eP0 : ∀ p, p < nn R 3 → R' (9426 + 13 * p) = R (9426 + 13 * p) := fun p hp => eP p hp 0 (by omega)
  have enP : ∀ p, p < nn R 3 → ∀ x, x < 5 → nn R' (9426 + 13 * p + x) = nn R (9426 + 13 * p + x) := fun p hp x hx => by unfold nn; rw [eP p hp x hx]
  have enP0 : ∀ p, p < nn R 3 → nn R' (9426 + 13 * p) = nn R (9426 + 13 * p) := fun p hp => enP p hp 0 (by omega)
  refine ⟨⟨?_, ?_, ?_, ?_, ?_⟩, fun g hg => ?_, fun t ht => ?_, ⟨fun g hg => ?_, fun k hk => ?_⟩, fun p hp => ?_, fun i hi => ?_⟩
  · rw [r1 0 (by omega), e0]
    exact n0
  · rw [r1 1 (by omega), e1]
    exact n1
  · rw [r1 2 (by omega), e2]
    exact n2
  · rw [r1 3 (by omega), e3]
    exact n3
  · rw [r4, e4]
    exact ⟨rfl, hn⟩
  · rw [e2] at hg
    have := n2.2
    rw [r1 _ (by omega), e _ (by omega)]
    exact hG g hg
  · rw [e1] at ht
    have := n1.2
    have q : ∀ x, x < 9 → R' (16 + 9 * t + x) = R (16 + 9 * t + x) := fun x hx => r1 _ (by omega)
    have qn : ∀ x, x < 9 → nn R' (16 + 9 * t + x) = nn R (16 + 9 * t + x) := fun x hx => by unfold nn; rw [q x hx]
    have ql : sln R' t = sln R t := qn 6 (by omega)
    rw [q 7 (by omega), q 8 (by omega), q 6 (by omega), q 5 (by omega), q 4 (by omega), q 3 (by omega), qn 3 (by omega), ql, e0]
    exact hW t ht
  · rw [e2] at hg
    have := n2.2
    rw [r1 _ (by omega), r1 _ (by omega), e0]
    exact hC.1 g hg
  · have hk2 : inC R k := by
      obtain ⟨g, hh, q1, q2, q3⟩ := hk
      rw [e2] at q1
      have := n2.2
      rw [e _ (by omega)] at q2
      exact ⟨g, hh, q1, q2, q3⟩
    have hkb : k < 4000 := by
      obtain ⟨g, hh, q1, q2, q3⟩ := hk2
      have := (hG g q1).2
      have := n2.2
      omega
    rw [r1 _ (by omega)]
    exact hC.2 k hk2
  · rw [e3] at hp
    obtain ⟨p1, p2, p3, p4, -⟩ := hP p hp
    rw [eP0 p hp, enP0 p hp]
    refine ⟨p1, fun h4 => ?_, ?_, ?_, ⟨0, 0, 0, ?_, ?_, ?_, Nat.le_refl _, Nat.zero_le _⟩⟩
    · obtain ⟨a, b, ha, hb, q1, q2, q3, q4⟩ := p2 h4
      refine ⟨a, b, by rw [e3]; exact ha, by rw [e3]; exact hb, by rw [eP p hp 3 (by omega)]; exact q1, by rw [eP p hp 4 (by omega)]; exact q2, by rw [enP0 a ha]; exact q3, by rw [enP0 b hb]; exact q4⟩
    · rw [eP p hp 1 (by omega), enP p hp 1 (by omega)]
      exact p3
    · rw [eP p hp 2 (by omega)]
      exact p4
    · rw [rp p hp 6 (by omega), if_pos (by omega)]
      rfl
    · rw [rp p hp 7 (by omega), if_pos (by omega)]
      rfl
    · rw [rp p hp 8 (by omega), if_pos (by omega)]
      rfl
  · rw [e4] at hi
    have n0' := n0.2
    have n1' := n1.2
    obtain ⟨d1, d2, d3⟩ := rd i hi
    obtain ⟨v1, v2, v3⟩ := hl _ (getD_mem hi)
    obtain ⟨e7, a2, e8, b2, hne⟩ := ws_e hW ⟨n0, n1, n2, n3, n4⟩ v1
    refine ⟨_, _, by rw [e1]; exact v1, d1, d2, ?_, ?_⟩
    · rw [r1 _ (by omega), r1 _ (by omega), e7, e8]
      rcases v2 with q | q
      · exact Or.inl (by rw [q])
      · exact Or.inr (by rw [q])
    · rw [d3]
      rcases (show (l.getD i (0, 0, 0)).2.2 = 0 ∨ (l.getD i (0, 0, 0)).2.2 = 1 by omega) with q | q
      · exact Or.inl (by rw [q]; rfl)
      · exact Or.inr (by rw [q]; rfl)
theorem wo_rnd (h3 : nn R' 3 = nn R 3) (h : RND R l R') : WO R' := fun p hp _ x h5 hx => by
  rw [h3] at hp
  rw [h.2.2.2 p hp x hx, if_pos h5]
end KRD
/-! 9zh.kround2.lean.txt -/
/-! round() of the class, the rest -/
section KR2
variable {s s' s0 s1 : AS} {sh : Sh} {d d0 d' : Dt} {z : Nat} {ow ow' : Nat → Nat} {R R' R1 K : Nat → Int32} {u : Bool} {y : YL} {N n m k i j p q9 x e v a b t c : Nat} {T D L Lp : Nat → Nat} {l : List (Nat × Nat × Nat)} {q : BL} {Q : Int32 × AS → Prop}
def rd1 (R R' : Nat → Int32) : Nat → Int32 := fun k => if 9426 ≤ k ∧ k < 9582 then R k else R' k
theorem rd1_p {k : Nat} (h : 9426 ≤ k ∧ k < 9582) : rd1 R R' k = R k := if_pos h
theorem rd1_n {k : Nat} (h : k < 9426 ∨ 9582 ≤ k) : rd1 R R' k = R' k := if_neg (by omega)
theorem rdL_n {k : Nat} : ∀ p, p ≤ 12 → k < 9426 ∨ 9582 ≤ k → rdL R1 p k = R1 k
  | 0, _, _ => rfl
  | p + 1, hp, hk => by
    show lpR (rdL R1 p) p k = _
    rw [lpR_n (by omega)]
    exact rdL_n p (by omega) hk
theorem rdL_p {p' x : Nat} (hx : x < 13) : ∀ p, rdL R1 p (9426 + 13 * p' + x) = if p' < p ∧ 5 ≤ x then 0 else R1 (9426 + 13 * p' + x)
  | 0 => by rw [if_neg (fun g => absurd g.1 (Nat.not_lt_zero p'))]; rfl
  | p + 1 => by
    show lpR (rdL R1 p) p (9426 + 13 * p' + x) = _
    by_cases ep : p' = p
    · subst ep
      by_cases h5 : 5 ≤ x
      · rw [if_pos ⟨by omega, h5⟩]
        exact zr_in (by omega)
      · rw [if_neg (fun g => h5 g.2), lpR_n (by omega), rdL_p hx p', if_neg (fun g => h5 g.2)]
    · rw [lpR_n (by omega), rdL_p hx p]
      by_cases h5 : p' < p ∧ 5 ≤ x
      · rw [if_pos h5, if_pos ⟨by omega, h5.2⟩]
      · rw [if_neg h5, if_neg (fun g => h5 ⟨by omega, g.2⟩)]
theorem rdL_wn (h : WN R1) : ∀ p, WN (rdL R1 p)
  | 0 => h
  | p + 1 => zr_wn (rdL_wn h p) (by omega) 8
theorem rdL_wdn (h : WDn R1) : ∀ p, p ≤ 12 → WDn (rdL R1 p)
  | 0, _ => h
  | p + 1, hp => wdn_cg (rdL_wdn h p (by omega)) (rdL_wn h.1 (p + 1)) (fun j _ hj => lpR_n (by omega))
theorem rd1_D (hW : WS R) (hN : WN R) (hl : VL R l) (h : RND R l R') (hn : l.length ≤ 2000) (hi : i < l.length) (c : Nat) : vD (rd1 R R') c i = vL R l c i := by
  have n0 := hN.1.2
  have n1 := hN.2.1.2
  obtain ⟨r1, r4, rd, rp⟩ := h
  obtain ⟨d1, d2, d3⟩ := rd i hi
  obtain ⟨v1, v2, v3⟩ := hl _ (getD_mem hi)
  obtain ⟨e7, a2, e8, b2, hne⟩ := ws_e hW hN v1
  have hc : (l.getD i (0, 0, 0)).2.1 < nn R 0 := by omega
  have e1 : rd1 R R' (9642 + 3 * i) = nI (l.getD i (0, 0, 0)).1 := (rd1_n (by omega)).trans d1
  have e2 : rd1 R R' (9642 + 3 * i + 1) = nI (l.getD i (0, 0, 0)).2.1 := (rd1_n (by omega)).trans d2
  have e3 : rd1 R R' (9642 + 3 * i + 2) = nI (l.getD i (0, 0, 0)).2.2 := (rd1_n (by omega)).trans d3
  have en : nn (rd1 R R') (9642 + 3 * i) = (l.getD i (0, 0, 0)).1 := by unfold nn; rw [e1, nI_clamp (by omega)]
  have s7 : rd1 R R' (16 + 9 * (l.getD i (0, 0, 0)).1 + 7) = nI (eA R (l.getD i (0, 0, 0)).1) := by rw [rd1_n (by omega), r1 _ (by omega), e7]
  have s8 : rd1 R R' (16 + 9 * (l.getD i (0, 0, 0)).1 + 8) = nI (eB R (l.getD i (0, 0, 0)).1) := by rw [rd1_n (by omega), r1 _ (by omega), e8]
  unfold vD vL oth
  rw [e1, e2, e3, en, s7, s8]
  by_cases c0 : c = 0
  · rw [if_pos c0, if_pos c0]
  rw [if_neg c0, if_neg c0]
  by_cases c1 : c = 1
  · rw [if_pos c1, if_pos c1]
  rw [if_neg c1, if_neg c1]
  by_cases c2 : c = 2
  · rw [if_pos c2, if_pos c2]
    by_cases g : eA R (l.getD i (0, 0, 0)).1 = (l.getD i (0, 0, 0)).2.1
    · rw [if_pos (by rw [g]), if_pos g]
    · rw [if_neg (fun r => g (nI_inj r (by omega) (by omega)).symm), if_neg g]
  · rw [if_neg c2, if_neg c2]
theorem k_handTo (hN1 : 300 ≤ N) (hK : KS s.1 z) (hw : OWS ow z) (hR : WDn R) (hB : BK s.1 s.2 z ow 3 R q) (ht : TB s.1 s.2 z ow 222 4 l.length (vL R l) Lp) (hn : l.length ≤ 2000) (e1 : ∀ k, k < 4 ∨ 9 ≤ k → k < 9582 → R1 k = R k) (e4 : R1 4 = nI l.length) (eD : ∀ c i, c < 4 → i < l.length → vD R1 c i = vL R l c i) (h0 : s.2.1 (z + 228) 0 = nI l.length) : Rn ((f_X8_become N (z + 31) (z + 222) s).bind fun v7 => f_X5_handTo_24 N (z + 221) (z + 3) v7) (fun s' => ∃ ow' L', ES (IX z ow 31 39) s ow s' ow' ∧ BK s'.1 s'.2 z ow' 3 R1 (q.1, q.2.1, q.2.2.1, L', q.2.2.2.2) ∧ s'.1.1.2.2 + 2 * smN q.2.2.2.1 4 ≤ s.1.1.2.2 + 2 * smN L' 4 ∧ 4 * s'.1.1.2.1 + smN q.2.2.2.1 4 ≤ 4 * s.1.1.2.1 + smN L' 4) := by
  have ht31 : tck 31 4 = true := by decide
  have en4 : nn R1 4 = l.length := by unfold nn; rw [e4, nI_clamp (by omega)]
  refine rn_bind (tb_become (o := 31) (o2 := 222) (by omega) ht31 (by decide) (by omega) (by omega) hK hw hB.2.2.2.2.1 ht) (fun s1 h1 => ?_)
  obtain ⟨ow1, L1, es1, t1, bL, m1, m2⟩ := h1
  have es1 : ES (IX z ow 31 39) s ow s1 ow1 := es1.mono (fun a _ h => ix_mono (tx_ix ht31 hw h) (by omega) (by omega))
  have hK1 := KS.es hK es1
  have hw1 := OWS.es hw hK es1
  unfold f_X5_handTo_24
  refine r_gP hK1 221 5 4 228 rfl (by decide) ?_
  refine r_gP hK1 3 1 5 37 rfl (by decide) ?_
  refine rn_eq (cpy_I (sp := 0) (dp := 0) (n := 7) (ks_a hK1 228 0 7 rfl) (ks_a hK1 37 0 7 rfl) (by decide) (by decide) (by decide) (by decide)) ?_
  refine r_gP hK1 221 5 5 229 rfl (by decide) ?_
  refine r_gP hK1 3 1 6 38 rfl (by decide) ?_
  refine rn_eq (cpy_I (sp := 0) (dp := 0) (n := 60) (ks_a hK1 229 0 60 rfl) (ks_a hK1 38 0 60 rfl) (by decide) (by decide) (by decide) (by decide)) (rn_some ?_)
  have o37 := hw1 37 (by decide) (by decide)
  have o38 := hw1 38 (by decide) (by decide)
  have rowfd : ∀ (d : Dt) (f : Nat → Int32) (i : Nat), i = 37 ∨ i = 38 → FD (IX z ow1 37 38) d (va_up d.1 (z + i) f, d.2) := fun d f i hi a ha => by
    have ne : a ≠ z + i := fun e => ha (by
      rw [e]
      unfold IX
      rcases hi with rfl | rfl
      · rw [onr_s o37 (by decide)]
        omega
      · rw [onr_s o38 (by decide)]
        omega)
    exact ⟨va_up_n ne, rfl, rfl, rfl⟩
  have fd := (rowfd s1.2 (va_cpy (s1.2.1 (z + 228)) (s1.2.1 (z + 37)) 0 0 7) 37 (Or.inl rfl)).tr (rowfd (va_up s1.2.1 (z + 37) (va_cpy (s1.2.1 (z + 228)) (s1.2.1 (z + 37)) 0 0 7), s1.2.2) (va_cpy ((va_up s1.2.1 (z + 37) (va_cpy (s1.2.1 (z + 228)) (s1.2.1 (z + 37)) 0 0 7)) (z + 229)) ((va_up s1.2.1 (z + 37) (va_cpy (s1.2.1 (z + 228)) (s1.2.1 (z + 37)) 0 0 7)) (z + 38)) 0 0 60) 38 (Or.inr rfl))
  have es2 := FD.es (sh := s1.1) (ow := ow1) fd
  have t2 := tb_ix t1 hK1 hw1 ht31 es2 (by omega)
  have es3 := es1.tr (es2.mono (fun a _ h => ix_mono (lo2 := 31) (hi2 := 39) h (by omega) (by omega))) (fun a ha h => ix_old es1 ha h)
  refine ⟨ow1, L1, es3, bk_D hR (Or.inl rfl) hK hw hB es3 ?_ (fun c hc => ?_) e1, m1, m2⟩
  · rw [en4]
    exact tb_congr t2 (fun c i hc hi => eD c i hc hi)
  · have q4 := hB.2.2.2.2.2.2.2.2.2.2.1 c hc
    have := (bL c hc).2
    omega
theorem rp_loop (hN1 : 300 ≤ N) (hR : WDn R1) (hw : OWS ow z) (hK : KS s0.1 z) (hk : ∀ d, FD (IX z ow 20 21) s0.2 d → BK s0.1 d z ow 3 (rdL R1 (nn R1 3)) q → Rn (f_X11_round_83 N z (s0.1, d)) Q) : ∀ (m p fu : Nat) (d : Dt), p + m = nn R1 3 → m < fu → FD (IX z ow 20 21) s0.2 d → BK s0.1 d z ow 3 (rdL R1 p) q → Rn (f_X11_round_55 N fu z (nI p) (s0.1, d)) Q
  | m, p, fu, d, hc, hf, hF, hB => by
    obtain ⟨fu, rfl⟩ : ∃ q, fu = q + 1 := ⟨fu - 1, by omega⟩
    have n3 := hR.1.2.2.2.1.2
    have e3 : nn (rdL R1 p) 3 = nn R1 3 := by unfold nn; rw [rdL_n p (by omega) (by omega)]
    show Rn (g_X11_round_55 N (f_X11_round_55 N fu) z (nI p) (s0.1, d)) _
    unfold g_X11_round_55
    refine r_now hK 3 20 (by decide) ?_
    refine r_gI hK (i := 20) (c := 8) rfl ?_
    have hS := hB.2.2.2.1.1
    rw [e3] at hS
    rw [hS]
    cases m with
    | zero =>
      refine rn_t (nI_le (by omega) (by omega)) ?_
      have e : p = nn R1 3 := by omega
      rw [e] at hB
      exact hk d hF hB
    | succ m =>
      refine rn_f (nI_ge (by omega) (by omega)) ?_
      rw [show gP s0.1 z 11 1 = gP s0.1 (z + 0) 11 1 from rfl]
      refine r_gP hK 0 11 1 3 rfl (by decide) ?_
      refine rn_bind (k_dropPart (by omega) (rdL_wdn hR p (by omega)) hK hw hB (by omega)) (fun d2 h2 => ?_)
      rw [nI_1]
      exact rp_loop hN1 hR hw hK hk m (p + 1) fu d2 (by omega) (by omega) (hF.tr h2.1) h2.2
theorem k_round (hNf : 20000 ≤ N) (h : CI s z ow R K u y c) (hR : WF R) (hKF : WF K) (hRN : (rdR R).1 = 0 → RND R (rdR R).2 R') : Rn (f_X11_round N z s) (KO z R K u c (if (rdR R).1 = 0 then (nI (rdR R).2.length, some R') else ((rdR R).1, none)) s) := by
  have hK := h.1
  have hN := hR.1
  have hW := hR.2.2.1
  have n3 := hN.2.2.2.1.2
  have fin : ∀ (r : Int32 × AS), PBQ s z R K u c (rdR R) r → Rn (f_X11_round_27 N z r.1 r.2) (KO z R K u c (if (rdR R).1 = 0 then (nI (rdR R).2.length, some R') else ((rdR R).1, none)) s) := fun r hr => by
    obtain ⟨p1, p2, ow1, y1, c1, p5⟩ := hr
    unfold f_X11_round_27
    by_cases h0 : (rdR R).1 = 0
    · rw [if_pos h0]
      refine rn_t (p1.trans h0) ?_
      have hl := rdR_len h0
      have hv := rdR_vl hR
      have hrn := hRN h0
      refine rn_bind (ci_change2 (by omega) c1 hN hR.2.1 hKF.1) (fun s2 hs2 => ?_)
      obtain ⟨f2, g1, g2, g3, ow2, q2, c2, tT⟩ := hs2
      have tT := tT _ _ (p5 h0)
      have hK2 := c2.1
      have hw2 := c2.2.1
      have pf : PF z s2.2 (wI s2.2 (z + 228) 0 (nI (rdR R).2.length)) := PF.w (i := 228) (Or.inl rfl)
      have c3 := ci_pf c2 pf
      have t3 : TB s2.1 (wI s2.2 (z + 228) 0 (nI (rdR R).2.length)) z ow2 222 4 (rdR R).2.length (vL R (rdR R).2) y1.2.2.1 := tb_ix (s := s2) (s' := (s2.1, wI s2.2 (z + 228) 0 (nI (rdR R).2.length))) tT hK2 hw2 (by decide) (FD.es (sh := s2.1) (d := s2.2) (pf.fd hw2)) (by omega)
      have cj3 : CJ (s2.1, wI s2.2 (z + 228) 0 (nI (rdR R).2.length)) z ow2 R (q2, y1.2.2) c (pot y1.1) := cj_of c3.1 (by show (wI s2.2 (z + 228) 0 _).1 (z + 77) 5 = 0; rw [wI_n (by omega)]; exact g1) (by show (wI s2.2 (z + 228) 0 _).1 (z + 201) 4 = 0; rw [wI_n (by omega)]; exact g2) (by show (wI s2.2 (z + 228) 0 _).1 (z + 201) 7 = 0; rw [wI_n (by omega)]; exact g3)
      have B3 : BK s2.1 (wI s2.2 (z + 228) 0 (nI (rdR R).2.length)) z ow2 3 R y1.1 := c3.1.2.2.1
      have P3 : PB s2.1 (wI s2.2 (z + 228) 0 (nI (rdR R).2.length)) z ow2 R := c3.1.2.2.2.2.2.1
      unfold f_X11_round_42
      rw [show gP s2.1 z 11 5 = gP s2.1 (z + 0) 11 5 from rfl, show gP s2.1 z 11 1 = gP s2.1 (z + 0) 11 1 from rfl]
      refine r_gP hK2 0 11 5 221 rfl (by decide) ?_
      refine r_gP hK2 0 11 1 3 rfl (by decide) ?_
      refine rn_bind (P := fun s' => ∃ ow' L', ES (IX z ow2 31 39) (s2.1, wI s2.2 (z + 228) 0 (nI (rdR R).2.length)) ow2 s' ow' ∧ BK s'.1 s'.2 z ow' 3 (rd1 R R') (y1.1.1, y1.1.2.1, y1.1.2.2.1, L', y1.1.2.2.2.2) ∧ s'.1.1.2.2 + 2 * smN y1.1.2.2.2.1 4 ≤ s2.1.1.2.2 + 2 * smN L' 4 ∧ 4 * s'.1.1.2.1 + smN y1.1.2.2.2.1 4 ≤ 4 * s2.1.1.2.1 + smN L' 4) ?_ (fun s4 hs4 => ?_)
      · unfold f_X5_handTo
        refine rn_t (ks_o hK2 221 5 rfl) ?_
        refine r_gP hK2 221 5 4 228 rfl (by decide) ?_
        refine r_gP hK2 221 5 3 222 rfl (by decide) ?_
        refine r_gI hK2 (i := 222) (c := 8) rfl ?_
        rw [tT.1]
        refine rn_eq (q_sI (ks_a hK2 228 0 7 rfl) 0 rfl (by decide) (by decide)) ?_
        refine r_gP hK2 3 1 4 31 rfl (by decide) ?_
        refine r_gP hK2 221 5 3 222 rfl (by decide) ?_
        exact k_handTo (s := (s2.1, wI s2.2 (z + 228) 0 (nI (rdR R).2.length))) (R1 := rd1 R R') (by omega) hK2 hw2 (wdn_of hR) B3 t3 hl (fun k h1 h2 => by
          by_cases q : 9426 ≤ k ∧ k < 9582
          · exact rd1_p q
          · rw [rd1_n (by omega)]
            exact hrn.1 k (by omega)) ((rd1_n (by omega)).trans hrn.2.1) (fun c i _ hi => rd1_D hW hN hv hrn hl hi c) (by rw [wI_s, va_up_s])
      · obtain ⟨ow4, L4, es4, B4, m1, m2⟩ := hs4
        have hK4 := KS.es (s := (s2.1, wI s2.2 (z + 228) 0 (nI (rdR R).2.length))) hK2 es4
        have hw4 := OWS.es (s := (s2.1, wI s2.2 (z + 228) 0 (nI (rdR R).2.length))) hw2 hK2 es4
        have ep : pot (y1.1.1, y1.1.2.1, y1.1.2.2.1, L4, y1.1.2.2.2.2) + smN y1.1.2.2.2.1 4 = pot y1.1 + smN L4 4 := by
          show smN y1.1.1 9 + smN y1.1.2.1 3 + smN y1.1.2.2.1 9 + smN L4 4 + y1.1.2.2.2.2 + smN y1.1.2.2.2.1 4 = smN y1.1.1 9 + smN y1.1.2.1 3 + smN y1.1.2.2.1 9 + smN y1.1.2.2.2.1 4 + y1.1.2.2.2.2 + smN L4 4
          omega
        have j4 := cj_es (c' := c) (P' := pot (y1.1.1, y1.1.2.1, y1.1.2.2.1, L4, y1.1.2.2.2.2)) cj3 es4 (Or.inl ⟨by decide, by decide⟩) (by show s4.1.1.2.2 + 2 * _ + 5 * c ≤ s2.1.1.2.2 + 2 * _ + 5 * c; omega) (by show 4 * s4.1.1.2.1 + _ + 4 * c ≤ 4 * s2.1.1.2.1 + _ + 4 * c; omega)
        have P4 := pb_ix (s := (s2.1, wI s2.2 (z + 228) 0 (nI (rdR R).2.length))) P3 hK2 hw2 es4 (by omega) (by omega)
        have e13 : nn (rd1 R R') 3 = nn R 3 := by unfold nn; rw [rd1_n (by omega), hrn.1 3 (by omega)]
        have e3' : nn R' 3 = nn R 3 := by unfold nn; rw [hrn.1 3 (by omega)]
        have e4' : nn R' 4 = (rdR R).2.length := by unfold nn; rw [hrn.2.1, nI_clamp (by omega)]
        have hWR' := wf_rnd hR hv hl hrn
        have wd1 : WDn (rd1 R R') := by
          have e : ∀ k, k < 9426 → nn (rd1 R R') k = nn R' k := fun k hk => by unfold nn; rw [rd1_n (by omega)]
          have w := wdn_of hWR'
          refine ⟨?_, fun g hg => ?_, fun i hi => ?_⟩
          · have w1 := w.1
            unfold WN
            rw [e 0 (by omega), e 1 (by omega), e 2 (by omega), e 3 (by omega), e 4 (by omega), rd1_n (by omega), rd1_n (by omega), rd1_n (by omega), rd1_n (by omega), rd1_n (by omega)]
            exact w1
          · rw [e 2 (by omega)] at hg
            have := w.1.2.2.1.2
            rw [rd1_n (by omega), e _ (by omega)]
            exact w.2.1 g hg
          · rw [e 4 (by omega)] at hi
            have e2 : nn (rd1 R R') (9642 + 3 * i) = nn R' (9642 + 3 * i) := by unfold nn; rw [rd1_n (by omega)]
            rw [e2, e 1 (by omega)]
            exact w.2.2 i hi
        unfold f_X11_round_53
        refine rp_loop (s0 := s4) (R1 := rd1 R R') (by omega) wd1 hw4 hK4 (fun d5 fd5 B5 => ?_) (nn (rd1 R R') 3) 0 N s4.2 (by omega) (by omega) FD.rf B4
        have es5 : ES (IX z ow4 20 21) s4 ow4 (s4.1, d5) ow4 := FD.es (sh := s4.1) (d := s4.2) fd5
        have j5 := cj_es (c' := c) (P' := pot (y1.1.1, y1.1.2.1, y1.1.2.2.1, L4, y1.1.2.2.2.2)) j4.1 es5 (Or.inl ⟨by decide, by decide⟩) (Nat.le_refl _) (Nat.le_refl _)
        have eqP : ∀ p, p < nn R 3 → ∀ x, x < 13 → R' (9426 + 13 * p + x) = rdL (rd1 R R') (nn (rd1 R R') 3) (9426 + 13 * p + x) := fun p hp x hx => by
          rw [rdL_p hx, hrn.2.2.2 p hp x hx, e13]
          by_cases h5 : 5 ≤ x
          · rw [if_pos h5, if_pos ⟨hp, h5⟩]
          · rw [if_neg h5, if_neg (fun g => h5 g.2), rd1_p (by omega)]
        have e33 : nn (rdL (rd1 R R') (nn (rd1 R R') 3)) 3 = nn R' 3 := congrArg Int32.toNatClampNeg ((rdL_n (nn (rd1 R R') 3) (by omega) (by omega)).trans (rd1_n (by omega)))
        have tP : TB s4.1 d5 z ow4 20 9 (nn R' 3) (vP R') y1.1.2.2.1 := by
          have t := B5.2.2.2.1
          rw [e33] at t
          refine tb_congr t (fun c i hc hi => ?_)
          rw [e3'] at hi
          have g := eqP i hi
          unfold vP
          simp only [g 6 (by omega), g 7 (by omega), g 8 (by omega), g 9 (by omega), g 10 (by omega), g 1 (by omega), g 2 (by omega), show R' (9426 + 13 * i) = rdL (rd1 R R') (nn (rd1 R R') 3) (9426 + 13 * i) from g 0 (by omega), g 11 (by omega), g 12 (by omega)]
        have BR : BK s4.1 d5 z ow4 3 R' (y1.1.1, y1.1.2.1, y1.1.2.2.1, L4, y1.1.2.2.2.2) := bk_P (s := (s4.1, d5)) (s' := (s4.1, d5)) (rdL_wdn wd1 _ (by omega)) (Or.inl rfl) hK4 hw4 B5 ES.rf tP B5.2.2.2.2.2.2.2.2.2.1 (fun k _ hk => by
          exact ((rdL_n (nn (rd1 R R') 3) (by omega) hk).trans (rd1_n hk)).symm)
        have P5 : PB s4.1 d5 z ow4 R := pb_ix (s := s4) (s' := (s4.1, d5)) P4 hK4 hw4 es5 (by omega) (by omega)
        have PR : PB s4.1 d5 z ow4 R' := fun p hp => by
          rw [e3'] at hp
          have eP : ∀ p, p < nn R 3 → ∀ x, x < 5 → nn R' (9426 + 13 * p + x) = nn R (9426 + 13 * p + x) := fun p hp x hx => by
            unfold nn
            rw [hrn.2.2.2 p hp x (by omega), if_neg (by omega)]
          have eP0 : ∀ p, p < nn R 3 → nn R' (9426 + 13 * p) = nn R (9426 + 13 * p) := fun p hp => eP p hp 0 (by omega)
          obtain ⟨a, h1, h2⟩ := P5 p hp
          refine ⟨a, h1, ?_⟩
          rw [eP0 p hp]
          rcases h2 with ⟨k1, k2⟩ | ⟨k1, k2⟩
          · exact Or.inl ⟨k1, k2⟩
          · right
            obtain ⟨a', b', ha, hb, q1, q2, -⟩ := (hR.2.2.2.2.1 p hp).2.1 k1
            have na : nn R (9426 + 13 * p + 3) = a' := by unfold nn; rw [q1, nI_clamp (by omega)]
            have nb : nn R (9426 + 13 * p + 4) = b' := by unfold nn; rw [q2, nI_clamp (by omega)]
            rw [na, nb] at k2
            rw [eP p hp 3 (by omega), eP p hp 4 (by omega), na, nb, eP0 a' ha, eP0 b' hb]
            exact ⟨k1, k2⟩
        have cF := cj_ci j5.1 BR PR
        unfold f_X11_round_83
        rw [show gP s4.1 z 11 1 = gP s4.1 (z + 0) 11 1 from rfl]
        refine r_gP hK4 0 11 1 3 rfl (by decide) ?_
        refine r_gP hK4 3 1 4 31 rfl (by decide) ?_
        refine r_gI hK4 (i := 31) (c := 8) rfl ?_
        have t4 : d5.1 (z + 31) 1 = nI (nn R' 4) := BR.2.2.2.2.1.1
        show Rn ((f_X11_answer N s4.1 z (d5.1 (z + 31) 1) d5).bind _) _
        rw [t4, e4']
        refine rn_bind (k_answer hK4) (fun ra hra => rn_some ?_)
        have q := ci_lg (s := (s4.1, d5)) cF hra.2
        exact ⟨hra.1, ((((p2.tr f2).tr c3.2).tr j4.2).tr j5.2).tr q.2, ow4, _, q.1⟩
    · rw [if_neg h0]
      refine rn_f (fun q => h0 (p1.symm.trans q)) ?_
      refine rn_bind (k_refuse c1.1) (fun ra hra => rn_some ?_)
      have q := ko_lg2 c1 p2 hra
      rw [hra.1, p1] at q
      exact ⟨hra.1.trans p1, q.2⟩
  unfold f_X11_round
  refine rn_t (by rw [← z0 (z := z)]; exact ks_o hK 0 11 rfl) ?_
  rw [show gP s.1 z 11 1 = gP s.1 (z + 0) 11 1 from rfl, show gP s.1 z 11 5 = gP s.1 (z + 0) 11 5 from rfl]
  refine r_gP hK 0 11 1 3 rfl (by decide) ?_
  refine rn_bind (k_hasOneWay (by omega) hK hN hW h.2.2.1.2.1) (fun v hv => ?_)
  rcases hv with ⟨hv, hB⟩ | ⟨hv, hB⟩
  · refine rn_t hv ?_
    refine r_gP hK 0 11 5 221 rfl (by decide) ?_
    have e : rdR R = pbR R := ite_p hB
    refine rn_bind (k_planBothWays hNf h hR hB) (fun r hr => fin r ?_)
    rw [e]
    exact hr
  · refine rn_f (by rw [hv]; decide) ?_
    refine r_gP hK 0 11 5 221 rfl (by decide) ?_
    have e : rdR R = nbR R := ite_n hB
    have h0 : 0 < nn R 0 := by
      rcases Nat.eq_zero_or_pos (nn R 0) with q | q
      · refine absurd (fun s hs _ => ?_) hB
        obtain ⟨-, a2, -⟩ := ws_e hW hN hs
        omega
      · exact q
    unfold f_X11_round_17
    refine rn_bind (k_planOneWays hNf h hR h0) (fun r hr => fin r ?_)
    rw [e]
    exact hr
end KR2
/-! 9zi.keep.lean.txt -/
/-! what the two sides leave of each other; what is well made stays so, over single cells of STREETS -/
def WK (R : Nat → Int32) : Prop := WF R ∧ WO R
def WKo (o : Int32 × Option (Nat → Int32)) : Prop := ∀ R', o.2 = some R' → WK R'
section KEEP
variable {s s' : AS} {d d' : Dt} {z : Nat} {ow : Nat → Nat} {R R' K : Nat → Int32} {u : Bool} {y : YL} {c i k : Nat} {v : Int32}
/-- the class leaves the reference -/
theorem ri_rfr (h : RI s.2 z R K u) (hf : RFR z s s') : RI s'.2 z R K u := by
  obtain ⟨r1, r2, r3, r4, r5⟩ := h
  have e : ∀ i, 242 ≤ i → i < 264 → s'.2.1 (z + i) = s.2.1 (z + i) := fun i h1 h2 => (hf i h1 h2).1
  unfold RI
  rw [e 242 (by omega) (by omega), e 243 (by omega) (by omega), e 244 (by omega) (by omega), e 247 (by omega) (by omega)]
  exact ⟨r1, r2, r3, r4, r5⟩
/-- the reference leaves the class -/
theorem ci_mfr (h : CI s z ow R K u y c) (hf : MFR z s.2 d') : CI (s.1, d') z ow R K u y c := by
  have hw := h.2.1
  have fd : FD (IX z ow 242 263) s.2 d' := fun a ha => by
    have q : a < z + 242 ∨ z + 264 ≤ a := by
      rcases Nat.lt_or_ge a (z + 242) with g | g
      · exact Or.inl g
      · rcases Nat.lt_or_ge a (z + 264) with g2 | g2
        · refine absurd ?_ ha
          obtain ⟨i, rfl⟩ : ∃ i, a = z + i := ⟨a - z, by omega⟩
          have hc := cO_ref (i := i) (by omega) (by omega)
          rw [Bool.and_eq_true] at hc
          unfold IX
          rw [onr_s (hw i (by omega) (Nat.eq_of_beq_eq_true hc.2)) (by omega)]
          omega
        · exact Or.inr g2
    obtain ⟨f1, f2, f3⟩ := hf
    exact ⟨(f3 a q).1, by rw [f1], (f3 a q).2, by rw [f2]⟩
  exact ci_fd h fd (Or.inr ⟨by decide, by decide⟩)
theorem wo_cg (h : WO R) (h3 : nn R' 3 = nn R 3) (e : ∀ j, 9426 ≤ j → R' j = R j) : WO R' := fun p hp q x h5 hx => by
  rw [h3] at hp
  rw [e _ (by omega)] at q ⊢
  exact h p hp q x h5 hx
theorem wk_none {w : Int32} : WKo (w, none) := fun R' e => by cases e
theorem wk_upS (hR : WK R) (hi : i < nn R 1) (hk : k < 6) (h45 : k = 4 ∨ k = 5 → v = 0 ∨ v = 1) (h3 : k = 3 → v = nI v.toNatClampNeg ∧ v.toNatClampNeg ≤ 2) : WK (va_up R (16 + 9 * i + k) v) := by
  have n1 := hR.1.1.2.1.2
  exact ⟨wf_upS hR.1 hi hk h45 h3, wo_cg hR.2 (nn_up (by omega)) (fun j hj => va_up_n (by omega))⟩
theorem wk_turn {x : Int32} (hR : WK R) (hk : k = 4 ∨ k = 5) (hv : v = 0 ∨ v = 1) : WKo (sp_turn R x k v) := by
  have n1 := hR.1.1.2.1.2
  unfold sp_turn
  by_cases h : x < 0 ∨ nI (nn R 1) ≤ x
  · rw [if_pos h]
    exact wk_none
  · rw [if_neg h]
    obtain ⟨i, hi, -, e⟩ := st_of (by omega) h
    intro R' hR'
    have hR' := Option.some.inj hR'
    rw [← hR', e]
    exact wk_upS hR hi (by omega) (fun _ => hv) (fun q => by omega)
theorem wk_sides {x n : Int32} (hR : WK R) : WKo (sp_sides R x n) := by
  have n1 := hR.1.1.2.1.2
  unfold sp_sides
  by_cases h : (x < 0 ∨ nI (nn R 1) ≤ x) ∨ (n < 0 ∨ 2 < n)
  · rw [if_pos h]
    exact wk_none
  · rw [if_neg h]
    obtain ⟨i, hi, -, e⟩ := st_of (by omega) (fun q => h (Or.inl q))
    obtain ⟨m, hm, q1, q2⟩ := st_of (x := n) (n := 3) (by decide) (fun q => h (Or.inr (q.imp id (fun q => (lt_pred (n := 3) (by decide)).mpr q))))
    intro R' hR'
    have hR' := Option.some.inj hR'
    rw [← hR', e]
    have g := wk_upS (k := 3) (v := n) hR hi (by omega) (fun q => by omega) (fun _ => ⟨by rw [q2]; exact q1, by omega⟩)
    exact wk_upS (k := 2) (v := 0) g (by rw [nn_up (by omega)]; exact hi) (by omega) (fun q => by omega) (fun q => by omega)
theorem wk_salt {x t : Int32} (hR : WK R) : WKo (sp_salt R x t) := by
  have n1 := hR.1.1.2.1.2
  unfold sp_salt
  by_cases h : (x < 0 ∨ nI (nn R 3) ≤ x) ∨ (t < 0 ∨ nI (nn R 1) ≤ t)
  · rw [if_pos h]
    exact wk_none
  · rw [if_neg h]
    obtain ⟨i, hi, -, e⟩ := st_of (x := t) (by omega) (fun q => h (Or.inr q))
    split
    · exact wk_none
    · split
      · intro R' hR'
        have hR' := Option.some.inj hR'
        rw [← hR', e]
        exact wk_upS (k := 0) hR hi (by omega) (fun q => by omega) (fun q => by omega)
      · exact wk_none
theorem wk_round {o : Int32 × List (Nat × Nat × Nat)} (hR : WK R) (hl : VL R o.2) (hn : o.2.length ≤ 2000) (h : RND R o.2 R') : WK R' := ⟨wf_rnd hR.1 hl hn h, wo_rnd (by unfold nn; rw [h.1 3 (by omega)]) h⟩
end KEEP
/-! 9zj.keep2.lean.txt -/
/-! what is well made stays so: melt snow go crossings gauge readings -/
section KEEP2
variable {R R' K : Nat → Int32} {p k i g x m b hh : Nat} {v w : Int32}
theorem wk_meF {q : Int32} (hR : WK R) : ∀ k, k ≤ nn R 1 → WK (meF R q k)
  | 0, _ => hR
  | k + 1, hk => by
    have n1 := hR.1.1.2.1.2
    exact wk_upS (k := 0) (wk_meF hR k (by omega)) (by rw [meF_nn (fun i hi => by omega)]; omega) (by omega) (fun q => by omega) (fun q => by omega)
theorem wk_melt {t s : Int32} (hR : WK R) : WKo (sp_melt R t s) := by
  unfold sp_melt
  split
  · exact wk_none
  · split
    · exact wk_none
    · intro R' h
      rw [← Option.some.inj h]
      exact wk_meF hR _ (Nat.le_refl _)
theorem wk_snF (hR : WK R) : ∀ k, k ≤ nn R 1 → WK (snF R hh k)
  | 0, _ => hR
  | k + 1, hk => by
    have n1 := hR.1.1.2.1.2
    have ih := wk_snF hR k (by omega)
    have e1 : nn (snF R hh k) 1 = nn R 1 := by
      unfold nn
      rw [snF_out (fun t ht => by omega) k (by omega)]
    show WK (if (snA R hh k (nn R 2)).2 = 0 then va_up (snF R hh k) (16 + 9 * k + 1) 1 else va_up (va_up (snF R hh k) (16 + 9 * k + 1) 0) (16 + 9 * k + 0) (snD R hh k))
    split
    · exact wk_upS (k := 1) ih (by omega) (by omega) (fun q => by omega) (fun q => by omega)
    · exact wk_upS (k := 0) (wk_upS (k := 1) ih (by omega) (by omega) (fun q => by omega) (fun q => by omega)) (by rw [nn_up (by omega)]; omega) (by omega) (fun q => by omega) (fun q => by omega)
theorem wk_snow {x : Int32} (hR : WK R) : WKo (sp_snow R x) := by
  unfold sp_snow
  split
  · exact wk_none
  · intro R' h
    rw [← Option.some.inj h]
    exact wk_snF hR _ (Nat.le_refl _)
theorem gok_N : ∀ (m k : Nat), gok R p k → gok R p (goN R p m k)
  | 0, _, h => h
  | m + 1, k, h => by
    by_cases q : gst (goF R p k) p
    · rw [show goN R p (m + 1) k = goN R p m (k + 1) from if_pos q]
      exact gok_N m (k + 1) (gok_s h q)
    · rw [show goN R p (m + 1) k = k from if_neg q]
      exact h
theorem wo_goF (hR : WK R) (hp : p < nn R 3) (h2 : R (9426 + 13 * p + 2) ≠ 1) : ∀ k, gok R p k → WO (goF R p k) ∧ goF R p k (9426 + 13 * p + 2) = R (9426 + 13 * p + 2)
  | 0, _ => ⟨hR.2, rfl⟩
  | k + 1, h => by
    have hk : gok R p k := fun j hj => h j (by omega)
    obtain ⟨i1, i2⟩ := wo_goF hR hp h2 k hk
    obtain ⟨f1, f2⟩ := goF_ok hR.1 hp k hk
    have n1 := f1.1.2.1.2
    have n3 := f1.1.2.2.2.1.2
    have gs := (goS_lt f1 (by rw [f2]; exact hp) (h k (Nat.lt_succ_self k)).1).2
    have gn : ∀ j, 9426 ≤ j → (j < 9426 + 13 * p + 8 ∨ 9426 + 13 * p + 13 ≤ j) → goP (goF R p k) p j = goF R p k j := fun j h1 h2 => goP_n (fun t _ => by omega) (by omega) (by omega)
    have g3 : nn (goP (goF R p k) p) 3 = nn (goF R p k) 3 := nn_eq (goP_n (fun t _ => by omega) (by omega) (by omega))
    refine ⟨fun p' hp' q x h5 hx => ?_, (gn _ (by omega) (by omega)).trans i2⟩
    show goP (goF R p k) p (9426 + 13 * p' + x) = 0
    have q : goP (goF R p k) p (9426 + 13 * p' + 2) = 1 := q
    have hp' : p' < nn (goP (goF R p k) p) 3 := hp'
    rw [g3] at hp'
    by_cases e : p' = p
    · subst e
      rw [gn _ (by omega) (by omega), i2] at q
      exact absurd q h2
    · rw [gn _ (by omega) (by omega)] at q ⊢
      exact i1 p' hp' q x h5 hx
theorem wk_go {x n : Int32} (hR : WK R) : WKo (sp_go R x n) := by
  have n3 := hR.1.1.2.2.2.1.2
  unfold sp_go
  by_cases h : (x < 0 ∨ nI (nn R 3) ≤ x) ∨ (n < 1 ∨ 50 < n)
  · rw [if_pos h]
    exact wk_none
  · rw [if_neg h]
    obtain ⟨p, hp, -, e⟩ := st_of (by omega) (fun q => h (Or.inl q))
    rw [e]
    by_cases h2 : R (9426 + 13 * p + 2) = 1
    · rw [if_pos h2]
      exact wk_none
    · rw [if_neg h2]
      split
      · intro R' hR'
        unfold goO at hR'
        have hR' : (if goN R p n.toNatClampNeg 0 = 0 then none else some (goF R p (goN R p n.toNatClampNeg 0))) = some R' := hR'
        have hk := gok_N (R := R) (p := p) n.toNatClampNeg 0 (fun j hj => absurd hj (Nat.not_lt_zero j))
        split at hR'
        · cases hR'
        · rw [← Option.some.inj hR']
          exact ⟨(goF_ok hR.1 hp _ hk).1, (wo_goF hR hp h2 _ hk).1⟩
      · exact wk_none
theorem wo_lo (h : WO R) (e : ∀ j, 9426 ≤ j → R' j = R j) (e3 : R' 3 = R 3) : WO R' := wo_cg h (by unfold nn; rw [e3]) e
theorem wk_gau (hR : WK R) (e : ∀ j, j < 1366 ∨ 9426 ≤ j → R' j = R j) (hG : WG R') (hC : WC R') : WK R' := ⟨wf_gau hR.1 e hG hC, wo_lo hR.2 (fun j hj => e j (Or.inr hj)) (e 3 (by omega))⟩
theorem wk_lose {x : Int32} (hR : WK R) : WKo (sp_lose R x) := by
  have n2 := hR.1.1.2.2.1.2
  unfold sp_lose
  by_cases h : x < 0 ∨ nI (nn R 2) ≤ x
  · rw [if_pos h]
    exact wk_none
  · rw [if_neg h]
    obtain ⟨g, hg, -, e⟩ := st_of (by omega) h
    intro R' hR'
    have hR' := Option.some.inj hR'
    rw [← hR', e]
    have n0 : nn (va_up R (1366 + 3 * g + 2) (-1)) (1366 + 3 * g + 2) = 0 := nn_m1 va_up_s
    refine wk_gau hR (fun j hj => va_up_n (by omega)) (fun g' hg' => ?_) ⟨fun g' hg' => ?_, fun k hk => ?_⟩
    · rw [nn_up (by omega)] at hg'
      by_cases eg : g' = g
      · subst eg
        rw [n0, va_up_s]
        exact ⟨Or.inl rfl, by omega⟩
      · rw [va_up_n (by omega), nn_up (by omega)]
        exact hR.1.2.1 g' hg'
    · rw [nn_up (by omega)] at hg'
      rw [va_up_n (by omega), va_up_n (by omega), nn_up (by omega)]
      exact hR.1.2.2.2.1.1 g' hg'
    · have hk2 : inC R k := by
        obtain ⟨g', hh, q1, q2, q3⟩ := hk
        rw [nn_up (by omega)] at q1
        by_cases eg : g' = g
        · subst eg
          rw [n0] at q2
          omega
        · rw [nn_up (by omega)] at q2
          exact ⟨g', hh, q1, q2, q3⟩
      rw [va_up_n (by omega)]
      exact hR.1.2.2.2.1.2 k hk2
theorem wk_write {v q : Int32} {h : Int32} (hR : WK R) (hg : g < nn R 2) (hq : q = 0 ∨ q = 1 ∨ q = 2) : WKo (sp_write R g h v q) := by
  have n2 := hR.1.1.2.2.1.2
  have g1 := hR.1.2.1 g hg
  unfold sp_write
  split
  · exact wk_none
  · next h1 =>
    by_cases h2 : h < 0 ∨ R (1366 + 3 * g + 2) ≤ h
    · rw [if_pos h2]
      exact wk_none
    · rw [if_neg h2]
      have e2 := g1.1.resolve_left h1
      rw [e2] at h2
      obtain ⟨j, hj, -, e⟩ := st_of (by omega) h2
      intro R' hR'
      have hR' := Option.some.inj hR'
      rw [← hR', e]
      refine wk_gau hR (fun k hk => wr_out (by omega) (by omega)) (fun g' hg' => ?_) ⟨fun g' hg' => ?_, fun k hk => ?_⟩
      · have x2 : nn (wrR R (200 * g + j) v q) 2 = nn R 2 := by unfold nn; rw [wr_out (by omega) (by omega)]
        rw [x2] at hg'
        unfold nn
        rw [wr_out (by omega) (by omega)]
        exact hR.1.2.1 g' hg'
      · have x2 : nn (wrR R (200 * g + j) v q) 2 = nn R 2 := by unfold nn; rw [wr_out (by omega) (by omega)]
        have x0 : nn (wrR R (200 * g + j) v q) 0 = nn R 0 := by unfold nn; rw [wr_out (by omega) (by omega)]
        rw [x2] at hg'
        rw [wr_out (by omega) (by omega), wr_out (by omega) (by omega), x0]
        exact hR.1.2.2.2.1.1 g' hg'
      · by_cases ek : k = 200 * g + j
        · subst ek
          unfold wrR
          rw [va_up_s]
          exact hq
        · have hk2 : inC R k := by
            obtain ⟨g', hh, q1, q2, q3⟩ := hk
            have x2 : nn (wrR R (200 * g + j) v q) 2 = nn R 2 := by unfold nn; rw [wr_out (by omega) (by omega)]
            rw [x2] at q1
            have x3 : nn (wrR R (200 * g + j) v q) (1366 + 3 * g' + 2) = nn R (1366 + 3 * g' + 2) := by unfold nn; rw [wr_out (by omega) (by omega)]
            rw [x3] at q2
            exact ⟨g', hh, q1, q2, q3⟩
          have hkb : k < 4000 := by
            obtain ⟨g', hh, q1, q2, q3⟩ := hk2
            have := (hR.1.2.1 g' q1).2
            omega
          rw [wr_out (by omega) (by omega)]
          exact hR.1.2.2.2.1.2 k hk2
end KEEP2
/-! 9zk.keep3.lean.txt -/
/-! what is well made stays so: none reading crossings street -/
section KEEP3
variable {R R' K : Nat → Int32} {p k i g x m b hh : Nat} {v w : Int32}
theorem wk_none2 {x h w : Int32} (hR : WK R) : WKo (sp_none R x h w) := by
  have n2 := hR.1.1.2.2.1.2
  unfold sp_none
  by_cases q : (x < 0 ∨ nI (nn R 2) ≤ x) ∨ (w < 0 ∨ 1 < w)
  · rw [if_pos q]
    exact wk_none
  · rw [if_neg q]
    obtain ⟨g, hg, -, e⟩ := st_of (by omega) (fun r => q (Or.inl r))
    rw [e]
    split
    · exact wk_write hR hg (Or.inr (Or.inl rfl))
    · exact wk_write hR hg (Or.inr (Or.inr rfl))
theorem wk_reading {x h v : Int32} (hR : WK R) : WKo (sp_reading R x h v) := by
  have n2 := hR.1.1.2.2.1.2
  unfold sp_reading
  by_cases q : x < 0 ∨ nI (nn R 2) ≤ x
  · rw [if_pos q]
    exact wk_none
  · rw [if_neg q]
    obtain ⟨g, hg, -, e⟩ := st_of (by omega) q
    rw [e]
    split
    · exact wk_write hR hg (Or.inl rfl)
    · refine wk_write hR hg ?_
      unfold lowm
      split
      · exact Or.inr (Or.inl rfl)
      · split
        · exact Or.inr (Or.inr rfl)
        · exact Or.inl rfl
theorem wk_crossings {n : Int32} (hR : WK R) : WKo (sp_crossings R n) := by
  obtain ⟨⟨⟨n0, n1, n2, n3, n4⟩, hG, hW, hC, hP, hD⟩, hO⟩ := hR
  unfold sp_crossings
  by_cases q : n < 1 ∨ 20 < n
  · rw [if_pos q]
    exact wk_none
  · rw [if_neg q]
    obtain ⟨m, hm, em, -⟩ := st_of (x := n) (n := 21) (by decide) (fun r => q (r.imp (fun r => Int32.lt_of_lt_of_le r (by decide)) (fun r => (lt_pred (n := 21) (by decide)).mpr r)))
    by_cases h6 : R 0 + n ≤ 60
    · rw [if_pos h6]
      intro R' hR'
      have hR' := Option.some.inj hR'
      rw [n0.1, em, nI_add] at h6 hR'
      have h6 := (nI_leI (b := 60) (by omega) (by decide)).mp h6
      have e : ∀ j, 1 ≤ j → R' j = R j := fun j hj => by rw [← hR', va_up_n (by omega)]
      have en : ∀ j, 1 ≤ j → nn R' j = nn R j := fun j hj => by unfold nn; rw [e j hj]
      have e0 : R' 0 = nI (nn R 0 + m) := by rw [← hR', va_up_s]
      have en0 : nn R' 0 = nn R 0 + m := by unfold nn; rw [e0, nI_clamp (by unfold nn at h6; omega)]; rfl
      refine ⟨⟨⟨by rw [e0, en0]; exact ⟨rfl, h6⟩, by rw [e 1 (by omega), en 1 (by omega)]; exact n1, by rw [e 2 (by omega), en 2 (by omega)]; exact n2, by rw [e 3 (by omega), en 3 (by omega)]; exact n3, by rw [e 4 (by omega), en 4 (by omega)]; exact n4⟩, fun g hg => ?_, fun t ht => ?_, ⟨fun g hg => ?_, fun k hk => ?_⟩, fun p hp => ?_, fun j hj => ?_⟩, wo_cg hO (en 3 (by omega)) (fun j hj => e j (by omega))⟩
      · rw [en 2 (by omega)] at hg
        rw [e _ (by omega), en _ (by omega)]
        exact hG g hg
      · rw [en 1 (by omega)] at ht
        obtain ⟨⟨a, b, q1, q2, q3⟩, q4⟩ := hW t ht
        have es : sln R' t = sln R t := en _ (by omega)
        rw [e _ (by omega), e _ (by omega), e (16 + 9 * t + 6) (by omega), e (16 + 9 * t + 5) (by omega), e (16 + 9 * t + 4) (by omega), e (16 + 9 * t + 3) (by omega), en (16 + 9 * t + 3) (by omega), es]
        exact ⟨⟨a, b, by omega, by omega, q3⟩, q4⟩
      · rw [en 2 (by omega)] at hg
        obtain ⟨⟨c, q1, q2⟩, q3⟩ := hC.1 g hg
        rw [e _ (by omega), e _ (by omega)]
        exact ⟨⟨c, by omega, q2⟩, q3⟩
      · obtain ⟨g, hh, q1, q2, q3⟩ := hk
        rw [en 2 (by omega)] at q1
        rw [en _ (by omega)] at q2
        rw [e _ (by omega)]
        exact hC.2 k ⟨g, hh, q1, q2, q3⟩
      · rw [en 3 (by omega)] at hp
        rw [en 3 (by omega), en 4 (by omega), e (9426 + 13 * p) (by omega), en (9426 + 13 * p) (by omega), e (9426 + 13 * p + 3) (by omega), e (9426 + 13 * p + 4) (by omega), e (9426 + 13 * p + 1) (by omega), en (9426 + 13 * p + 1) (by omega), e (9426 + 13 * p + 2) (by omega), e (9426 + 13 * p + 6) (by omega), e (9426 + 13 * p + 7) (by omega), e (9426 + 13 * p + 8) (by omega)]
        obtain ⟨q1, q2, q3⟩ := hP p hp
        refine ⟨q1, fun q => ?_, q3⟩
        obtain ⟨a, b, r1, r2, r3, r4, r5, r6⟩ := q2 q
        exact ⟨a, b, r1, r2, r3, r4, by rw [en _ (by omega)]; exact r5, by rw [en _ (by omega)]; exact r6⟩
      · rw [en 4 (by omega)] at hj
        obtain ⟨t, c, q1, q2, q3, q4, q5⟩ := hD j hj
        exact ⟨t, c, by rw [en 1 (by omega)]; exact q1, by rw [e _ (by omega)]; exact q2, by rw [e _ (by omega)]; exact q3, by rw [e (16 + 9 * t + 7) (by omega), e (16 + 9 * t + 8) (by omega)]; exact q4, by rw [e _ (by omega)]; exact q5⟩
    · rw [if_neg h6]
      exact wk_none
end KEEP3
/-! 9zl.keep4.lean.txt -/
/-! what is well made stays so: the cells of one PLOUGH -/
section KEEP4
variable {R R' K : Nat → Int32} {p k i g x m b hh : Nat} {v w : Int32}
theorem wk_pl (hR : WK R) (hp : p < nn R 3) (e : ∀ j, j < 9426 + 13 * p ∨ 9426 + 13 * p + 13 ≤ j → R' j = R j) (e0 : ∀ x, x < 5 → x ≠ 2 → R' (9426 + 13 * p + x) = R (9426 + 13 * p + x)) (h2 : R' (9426 + 13 * p + 2) = 0 ∨ R' (9426 + 13 * p + 2) = 1) (h3 : ∃ f m e, R' (9426 + 13 * p + 6) = nI f ∧ R' (9426 + 13 * p + 7) = nI m ∧ R' (9426 + 13 * p + 8) = nI e ∧ e ≤ m ∧ f + m ≤ nn R 4) (ho : R' (9426 + 13 * p + 2) = 1 → ∀ x, 5 ≤ x → x < 13 → R' (9426 + 13 * p + x) = 0) : WK R' := by
  obtain ⟨⟨hN, hG, hW, hC, hP, hD⟩, hO⟩ := hR
  have n1 := hN.2.1.2
  have n2 := hN.2.2.1.2
  have n3 := hN.2.2.2.1.2
  have en : ∀ j, j < 9426 + 13 * p ∨ 9426 + 13 * p + 13 ≤ j → nn R' j = nn R j := fun j hj => by unfold nn; rw [e j hj]
  have k0 : R' (9426 + 13 * p) = R (9426 + 13 * p) := e0 0 (by omega) (by omega)
  have kk : ∀ p', nn R' (9426 + 13 * p') = nn R (9426 + 13 * p') := fun p' => by
    by_cases q : p' = p
    · rw [q]
      unfold nn
      rw [k0]
    · exact en _ (by omega)
  refine ⟨⟨?_, fun g hg => ?_, fun t ht => ?_, ⟨fun g hg => ?_, fun k hk => ?_⟩, fun p' hp' => ?_, fun j hj => ?_⟩, fun p' hp' q x h5 hx => ?_⟩
  · unfold WN
    rw [en 0 (by omega), en 1 (by omega), en 2 (by omega), en 3 (by omega), en 4 (by omega), e 0 (by omega), e 1 (by omega), e 2 (by omega), e 3 (by omega), e 4 (by omega)]
    exact hN
  · rw [en 2 (by omega)] at hg
    rw [e _ (by omega), en _ (by omega)]
    exact hG g hg
  · rw [en 1 (by omega)] at ht
    have es : sln R' t = sln R t := en _ (by omega)
    rw [e (16 + 9 * t + 7) (by omega), e (16 + 9 * t + 8) (by omega), e (16 + 9 * t + 6) (by omega), e (16 + 9 * t + 5) (by omega), e (16 + 9 * t + 4) (by omega), e (16 + 9 * t + 3) (by omega), en (16 + 9 * t + 3) (by omega), es, en 0 (by omega)]
    exact hW t ht
  · rw [en 2 (by omega)] at hg
    rw [e _ (by omega), e _ (by omega), en 0 (by omega)]
    exact hC.1 g hg
  · obtain ⟨g, hh, q1, q2, q3⟩ := hk
    rw [en 2 (by omega)] at q1
    rw [en _ (by omega)] at q2
    have := (hG g q1).2
    rw [e _ (by omega)]
    exact hC.2 k ⟨g, hh, q1, q2, q3⟩
  · rw [en 3 (by omega)] at hp'
    obtain ⟨q1, q2, q3, q4, q5⟩ := hP p' hp'
    by_cases q : p' = p
    · subst q
      rw [en 3 (by omega), en 4 (by omega), kk p', k0, e0 3 (by omega) (by omega), e0 4 (by omega) (by omega), e0 1 (by omega) (by omega)]
      have k1 : nn R' (9426 + 13 * p' + 1) = nn R (9426 + 13 * p' + 1) := by unfold nn; rw [e0 1 (by omega) (by omega)]
      rw [k1]
      refine ⟨q1, fun h4 => ?_, q3, h2, h3⟩
      obtain ⟨a, b, r1, r2, r3, r4, r5, r6⟩ := q2 h4
      exact ⟨a, b, r1, r2, r3, r4, by rw [kk]; exact r5, by rw [kk]; exact r6⟩
    · rw [en 3 (by omega), en 4 (by omega), kk p', e (9426 + 13 * p') (by omega), e (9426 + 13 * p' + 3) (by omega), e (9426 + 13 * p' + 4) (by omega), e (9426 + 13 * p' + 1) (by omega), en (9426 + 13 * p' + 1) (by omega), e (9426 + 13 * p' + 2) (by omega), e (9426 + 13 * p' + 6) (by omega), e (9426 + 13 * p' + 7) (by omega), e (9426 + 13 * p' + 8) (by omega)]
      refine ⟨q1, fun h4 => ?_, q3, q4, q5⟩
      obtain ⟨a, b, r1, r2, r3, r4, r5, r6⟩ := q2 h4
      exact ⟨a, b, r1, r2, r3, r4, by rw [kk]; exact r5, by rw [kk]; exact r6⟩
  · rw [en 4 (by omega)] at hj
    obtain ⟨t, c, q1, q2, q3, q4, q5⟩ := hD j hj
    exact ⟨t, c, by rw [en 1 (by omega)]; exact q1, by rw [e _ (by omega)]; exact q2, by rw [e _ (by omega)]; exact q3, by rw [e (16 + 9 * t + 7) (by omega), e (16 + 9 * t + 8) (by omega)]; exact q4, by rw [e _ (by omega)]; exact q5⟩
  · rw [en 3 (by omega)] at hp'
    by_cases ep : p' = p
    · subst ep
      exact ho q x h5 hx
    · rw [e _ (by omega)] at q ⊢
      exact hO p' hp' q x h5 hx
theorem wk_lvR (hR : WK R) (hp : p < nn R 3) : WK (lvR R p) := by
  have z5 : ∀ x, 5 ≤ x → x < 13 → lvR R p (9426 + 13 * p + x) = 0 := fun x h1 h2 => zr_in (by omega)
  have l5 : ∀ x, x < 5 → lvR R p (9426 + 13 * p + x) = va_up R (9426 + 13 * p + 2) 1 (9426 + 13 * p + x) := fun x h => zr_out (by omega)
  refine wk_pl hR hp (fun j hj => lvR_n hj) (fun x h1 h2 => by rw [l5 x h1, va_up_n (by omega)]) (Or.inr (by rw [l5 2 (by omega), va_up_s])) ⟨0, 0, 0, ?_, ?_, ?_, Nat.le_refl _, Nat.zero_le _⟩ (fun _ => z5)
  · exact (z5 6 (by omega) (by omega)).trans rfl
  · exact (z5 7 (by omega) (by omega)).trans rfl
  · exact (z5 8 (by omega) (by omega)).trans rfl
theorem wk_lpR (hR : WK R) (hp : p < nn R 3) : WK (lpR R p) := by
  have z5 : ∀ x, 5 ≤ x → x < 13 → lpR R p (9426 + 13 * p + x) = 0 := fun x h1 h2 => zr_in (by omega)
  have l5 : ∀ x, x < 5 → lpR R p (9426 + 13 * p + x) = R (9426 + 13 * p + x) := fun x h => zr_out (by omega)
  refine wk_pl hR hp (fun j hj => lpR_n (by omega)) (fun x h1 _ => l5 x h1) (by rw [l5 2 (by omega)]; exact (hR.1.2.2.2.2.1 p hp).2.2.2.1) ⟨0, 0, 0, ?_, ?_, ?_, Nat.le_refl _, Nat.zero_le _⟩ (fun _ => z5)
  · exact (z5 6 (by omega) (by omega)).trans rfl
  · exact (z5 7 (by omega) (by omega)).trans rfl
  · exact (z5 8 (by omega) (by omega)).trans rfl
theorem wk_out {x : Int32} (hR : WK R) : WKo (sp_out R x) := by
  have n3 := hR.1.1.2.2.2.1.2
  unfold sp_out
  by_cases h : x < 0 ∨ nI (nn R 3) ≤ x
  · rw [if_pos h]
    exact wk_none
  · rw [if_neg h]
    obtain ⟨p, hp, -, e⟩ := st_of (by omega) h
    intro R' hR'
    have hR' := Option.some.inj hR'
    rw [← hR', e]
    exact wk_lvR hR hp
end KEEP4
/-! 9zm.keep5.lean.txt -/
/-! what is well made stays so: split -/
section KEEP5
variable {R R' K : Nat → Int32} {p k i g x m b hh : Nat} {v w : Int32}
theorem wk_slF (hR : WK R) : ∀ p, p ≤ nn R 3 → WK (slF R p)
  | 0, _ => hR
  | p + 1, hp => by
    have ih := wk_slF hR p (by omega)
    have n3 := hR.1.1.2.2.2.1.2
    have e3 : nn (slF R p) 3 = nn R 3 := by unfold nn; rw [slF_n (by omega)]
    have e4 : nn (slF R p) 4 = nn R 4 := by unfold nn; rw [slF_n (by omega)]
    have hp3 : p < nn (slF R p) 3 := by omega
    show WK (if R (9426 + 13 * p + 2) = 1 then lpR (slF R p) p else slP (lpR (slF R p) p) p (spF R p) (spF R (p + 1) - spF R p) (spM R p))
    by_cases h2 : R (9426 + 13 * p + 2) = 1
    · rw [if_pos h2]
      exact wk_lpR ih hp3
    · rw [if_neg h2]
      have b1 := (spF_b (R := R) (p + 1)).1
      have b2 := (spF_b (R := R) p).2
      have l5 : ∀ x, x < 5 → slP (lpR (slF R p) p) p (spF R p) (spF R (p + 1) - spF R p) (spM R p) (9426 + 13 * p + x) = slF R p (9426 + 13 * p + x) := fun x h => by
        unfold slP
        rw [va_up_n (by omega), va_up_n (by omega), va_up_n (by omega), va_up_n (by omega), lpR_n (by omega)]
      have k2 : slF R p (9426 + 13 * p + 2) = R (9426 + 13 * p + 2) := slF_k (by omega) p
      refine wk_pl ih hp3 (fun j hj => ?_) (fun x h1 _ => l5 x h1) ?_ ⟨spF R p, spF R (p + 1) - spF R p, 0, ?_, ?_, ?_, Nat.zero_le _, by rw [e4]; omega⟩ (fun q => ?_)
      · unfold slP
        rw [va_up_n (by omega), va_up_n (by omega), va_up_n (by omega), va_up_n (by omega), lpR_n (by omega)]
      · rw [l5 2 (by omega)]
        exact (ih.1.2.2.2.2.1 p hp3).2.2.2.1
      · unfold slP
        rw [va_up_n (by omega), va_up_n (by omega), va_up_s]
      · unfold slP
        rw [va_up_n (by omega), va_up_s]
      · unfold slP
        rw [va_up_n (by omega), va_up_n (by omega), va_up_n (by omega), va_up_n (by omega)]
        exact (zr_in (by omega)).trans rfl
      · rw [l5 2 (by omega), k2] at q
        exact absurd q h2
theorem wk_split (hR : WK R) : WKo (sp_split R) := by
  unfold sp_split
  split
  · intro R' hR'
    rw [← Option.some.inj hR']
    exact wk_slF hR _ (Nat.le_refl _)
  · exact wk_none
end KEEP5
/-! 9zn.keep6.lean.txt -/
/-! what is well made stays so: a new STREET, a new GAUGE -/
section KEEP6
variable {R R' K : Nat → Int32} {p k i g x m hh : Nat} {v w : Int32}
theorem wk_stR {a b l : Nat} {o : Int32} (hR : WK R) (h1 : nn R 1 ≠ 150) (ha : a < nn R 0) (hb : b < nn R 0) (hab : a ≠ b) (hl : 1 ≤ l ∧ l ≤ 10000) (ho : o = 0 ∨ o = 1) : WK (stR R (nI a) (nI b) (nI l) o) := by
  obtain ⟨⟨hN, hG, hW, hC, hP, hD⟩, hO⟩ := hR
  have n0 := hN.1.2
  have n1 := hN.2.1.2
  have n2 := hN.2.2.1.2
  have e : ∀ j, j ≠ 1 → (j < 16 + 9 * nn R 1 ∨ 1366 ≤ j) → stR R (nI a) (nI b) (nI l) o j = R j := fun j q1 q2 => stR_n q1 (by omega)
  have en : ∀ j, j ≠ 1 → (j < 16 + 9 * nn R 1 ∨ 1366 ≤ j) → nn (stR R (nI a) (nI b) (nI l) o) j = nn R j := fun j q1 q2 => by unfold nn; rw [e j q1 q2]
  have e1 : nn (stR R (nI a) (nI b) (nI l) o) 1 = nn R 1 + 1 := stR_n1 hN
  refine ⟨⟨?_, fun g hg => ?_, fun t ht => ?_, ⟨fun g hg => ?_, fun k hk => ?_⟩, fun p hp => ?_, fun j hj => ?_⟩, wo_cg hO (en 3 (by omega) (by omega)) (fun j hj => e j (by omega) (by omega))⟩
  · unfold WN
    rw [en 0 (by omega) (by omega), e1, en 2 (by omega) (by omega), en 3 (by omega) (by omega), en 4 (by omega) (by omega), e 0 (by omega) (by omega), e 2 (by omega) (by omega), e 3 (by omega) (by omega), e 4 (by omega) (by omega), stR_1]
    exact ⟨hN.1, ⟨rfl, by omega⟩, hN.2.2⟩
  · rw [en 2 (by omega) (by omega)] at hg
    rw [e _ (by omega) (by omega), en _ (by omega) (by omega)]
    exact hG g hg
  · rw [e1] at ht
    rw [en 0 (by omega) (by omega)]
    by_cases et : t = nn R 1
    · have s6 : sln (stR R (nI a) (nI b) (nI l) o) t = l := by
        rw [et]
        unfold sln nn
        rw [show (R 1).toNatClampNeg = nn R 1 from rfl, stR_6, nI_clamp (by omega)]
      have s3 : nn (stR R (nI a) (nI b) (nI l) o) (16 + 9 * t + 3) = 1 := by
        rw [et]
        unfold nn
        rw [show (R 1).toNatClampNeg = nn R 1 from rfl, stR_3]
        rfl
      rw [s6, s3, et, stR_7, stR_8, stR_6, stR_5, stR_4, stR_3]
      exact ⟨⟨a, b, ha, hb, hab, rfl, rfl⟩, ⟨rfl, hl.1, hl.2⟩, ho, Or.inl rfl, rfl, by omega⟩
    · have es : sln (stR R (nI a) (nI b) (nI l) o) t = sln R t := en _ (by omega) (by omega)
      rw [e (16 + 9 * t + 7) (by omega) (by omega), e (16 + 9 * t + 8) (by omega) (by omega), e (16 + 9 * t + 6) (by omega) (by omega), e (16 + 9 * t + 5) (by omega) (by omega), e (16 + 9 * t + 4) (by omega) (by omega), e (16 + 9 * t + 3) (by omega) (by omega), en (16 + 9 * t + 3) (by omega) (by omega), es]
      exact hW t (by omega)
  · rw [en 2 (by omega) (by omega)] at hg
    rw [e _ (by omega) (by omega), e _ (by omega) (by omega), en 0 (by omega) (by omega)]
    exact hC.1 g hg
  · obtain ⟨g, hh, q1, q2, q3⟩ := hk
    rw [en 2 (by omega) (by omega)] at q1
    rw [en _ (by omega) (by omega)] at q2
    rw [e _ (by omega) (by omega)]
    exact hC.2 k ⟨g, hh, q1, q2, q3⟩
  · rw [en 3 (by omega) (by omega)] at hp
    have q : ∀ x, stR R (nI a) (nI b) (nI l) o (9426 + 13 * p + x) = R (9426 + 13 * p + x) := fun x => e _ (by omega) (by omega)
    have q0 : ∀ p, nn (stR R (nI a) (nI b) (nI l) o) (9426 + 13 * p) = nn R (9426 + 13 * p) := fun p => en _ (by omega) (by omega)
    rw [en 3 (by omega) (by omega), en 4 (by omega) (by omega), e (9426 + 13 * p) (by omega) (by omega), q0, q 3, q 4, q 1, en (9426 + 13 * p + 1) (by omega) (by omega), q 2, q 6, q 7, q 8]
    obtain ⟨q1, q2, q3⟩ := hP p hp
    refine ⟨q1, fun q => ?_, q3⟩
    obtain ⟨a, b, r1, r2, r3, r4, r5, r6⟩ := q2 q
    exact ⟨a, b, r1, r2, r3, r4, by rw [q0]; exact r5, by rw [q0]; exact r6⟩
  · rw [en 4 (by omega) (by omega)] at hj
    obtain ⟨t, c, q1, q2, q3, q4, q5⟩ := hD j hj
    exact ⟨t, c, by omega, by rw [e _ (by omega) (by omega)]; exact q2, by rw [e _ (by omega) (by omega)]; exact q3, by rw [e (16 + 9 * t + 7) (by omega) (by omega), e (16 + 9 * t + 8) (by omega) (by omega)]; exact q4, by rw [e _ (by omega) (by omega)]; exact q5⟩
theorem wk_street {a b l w : Int32} (hR : WK R) : WKo (sp_street R a b l w) := by
  have n0 := hR.1.1.1.2
  unfold sp_street
  by_cases h : ((a < 0 ∨ nI (nn R 0) ≤ a) ∨ (b < 0 ∨ nI (nn R 0) ≤ b)) ∨ a = b ∨ (l < 1 ∨ 10000 < l)
  · rw [if_pos h]
    exact wk_none
  · rw [if_neg h]
    split
    · exact wk_none
    · next h1 =>
      obtain ⟨i, hi, ei, -⟩ := st_of (x := a) (by omega) (fun q => h (Or.inl (Or.inl q)))
      obtain ⟨j, hj, ej, -⟩ := st_of (x := b) (by omega) (fun q => h (Or.inl (Or.inr q)))
      obtain ⟨m, hm, em, -⟩ := st_of (x := l) (n := 10001) (by decide) (fun q => h (Or.inr (Or.inr (q.imp (fun q => Int32.lt_of_lt_of_le q (by decide)) (fun q => (lt_pred (n := 10001) (by decide)).mpr q)))))
      have hm1 : 1 ≤ m := by
        rcases Nat.eq_zero_or_pos m with q | q
        · exact absurd (Or.inr (Or.inr (Or.inl (by rw [em, q]; decide)))) h
        · exact q
      have hij : i ≠ j := fun q => h (Or.inr (Or.inl (by rw [ei, ej, q])))
      intro R' hR'
      have hR' := Option.some.inj hR'
      rw [← hR', ei, ej, em]
      refine wk_stR hR h1 hi hj hij ⟨hm1, by omega⟩ ?_
      split
      · exact Or.inl rfl
      · exact Or.inr rfl
end KEEP6
/-! 9zo.keep7.lean.txt -/
/-! what is well made stays so: a new GAUGE -/
section KEEP7
variable {R R' K : Nat → Int32} {p k i g x m hh : Nat} {v : Int32}
theorem wk_gaR {c : Nat} {w : Int32} (hR : WK R) (h2 : nn R 2 ≠ 20) (hc : c < nn R 0) (hw : w = 0 ∨ w = 1) : WK (gaR R (nI c) w) := by
  obtain ⟨⟨hN, hG, hW, hC, hP, hD⟩, hO⟩ := hR
  have n0 := hN.1.2
  have n1 := hN.2.1.2
  have n2 := hN.2.2.1.2
  have e : ∀ j, j ≠ 2 → (j < 1366 + 3 * nn R 2 ∨ 1426 ≤ j) → gaR R (nI c) w j = R j := fun j q1 q2 => gaR_n q1 (by omega)
  have en : ∀ j, j ≠ 2 → (j < 1366 + 3 * nn R 2 ∨ 1426 ≤ j) → nn (gaR R (nI c) w) j = nn R j := fun j q1 q2 => by unfold nn; rw [e j q1 q2]
  have e2 : nn (gaR R (nI c) w) 2 = nn R 2 + 1 := gaR_nn hN
  have c2 : gaR R (nI c) w 2 = nI (nn R 2 + 1) := va_up_s
  have c0 : gaR R (nI c) w (1366 + 3 * nn R 2) = nI c := by
    unfold gaR
    rw [va_up_n (by omega), va_up_n (by omega), va_up_n (by omega), va_up_s]
  have c1 : gaR R (nI c) w (1366 + 3 * nn R 2 + 1) = w := by
    unfold gaR
    rw [va_up_n (by omega), va_up_n (by omega), va_up_s]
  have c3 : gaR R (nI c) w (1366 + 3 * nn R 2 + 2) = -1 := by
    unfold gaR
    rw [va_up_n (by omega), va_up_s]
  have c3n : nn (gaR R (nI c) w) (1366 + 3 * nn R 2 + 2) = 0 := nn_m1 c3
  refine ⟨⟨?_, fun g hg => ?_, fun t ht => ?_, ⟨fun g hg => ?_, fun k hk => ?_⟩, fun p hp => ?_, fun j hj => ?_⟩, wo_cg hO (en 3 (by omega) (by omega)) (fun j hj => e j (by omega) (by omega))⟩
  · unfold WN
    rw [en 0 (by omega) (by omega), en 1 (by omega) (by omega), e2, en 3 (by omega) (by omega), en 4 (by omega) (by omega), e 0 (by omega) (by omega), e 1 (by omega) (by omega), c2, e 3 (by omega) (by omega), e 4 (by omega) (by omega)]
    exact ⟨hN.1, hN.2.1, ⟨rfl, by omega⟩, hN.2.2.2⟩
  · rw [e2] at hg
    by_cases eg : g = nn R 2
    · rw [eg, c3, c3n]
      exact ⟨Or.inl rfl, by omega⟩
    · rw [e _ (by omega) (by omega), en _ (by omega) (by omega)]
      exact hG g (by omega)
  · rw [en 1 (by omega) (by omega)] at ht
    have es : sln (gaR R (nI c) w) t = sln R t := en _ (by omega) (by omega)
    rw [e (16 + 9 * t + 7) (by omega) (by omega), e (16 + 9 * t + 8) (by omega) (by omega), e (16 + 9 * t + 6) (by omega) (by omega), e (16 + 9 * t + 5) (by omega) (by omega), e (16 + 9 * t + 4) (by omega) (by omega), e (16 + 9 * t + 3) (by omega) (by omega), en (16 + 9 * t + 3) (by omega) (by omega), es, en 0 (by omega) (by omega)]
    exact hW t ht
  · rw [e2] at hg
    rw [en 0 (by omega) (by omega)]
    by_cases eg : g = nn R 2
    · rw [eg, c0, c1]
      exact ⟨⟨c, hc, rfl⟩, hw⟩
    · rw [e _ (by omega) (by omega), e _ (by omega) (by omega)]
      exact hC.1 g (by omega)
  · obtain ⟨g, hh, q1, q2, q3⟩ := hk
    rw [e2] at q1
    by_cases eg : g = nn R 2
    · rw [eg, c3n] at q2
      omega
    · rw [en _ (by omega) (by omega)] at q2
      rw [e _ (by omega) (by omega)]
      exact hC.2 k ⟨g, hh, by omega, q2, q3⟩
  · rw [en 3 (by omega) (by omega)] at hp
    have q : ∀ x, gaR R (nI c) w (9426 + 13 * p + x) = R (9426 + 13 * p + x) := fun x => e _ (by omega) (by omega)
    have q0 : ∀ p, nn (gaR R (nI c) w) (9426 + 13 * p) = nn R (9426 + 13 * p) := fun p => en _ (by omega) (by omega)
    rw [en 3 (by omega) (by omega), en 4 (by omega) (by omega), e (9426 + 13 * p) (by omega) (by omega), q0, q 3, q 4, q 1, en (9426 + 13 * p + 1) (by omega) (by omega), q 2, q 6, q 7, q 8]
    obtain ⟨q1, q2, q3⟩ := hP p hp
    refine ⟨q1, fun q => ?_, q3⟩
    obtain ⟨a, b, r1, r2, r3, r4, r5, r6⟩ := q2 q
    exact ⟨a, b, r1, r2, r3, r4, by rw [q0]; exact r5, by rw [q0]; exact r6⟩
  · rw [en 4 (by omega) (by omega)] at hj
    obtain ⟨t, c, q1, q2, q3, q4, q5⟩ := hD j hj
    exact ⟨t, c, by rw [en 1 (by omega) (by omega)]; exact q1, by rw [e _ (by omega) (by omega)]; exact q2, by rw [e _ (by omega) (by omega)]; exact q3, by rw [e (16 + 9 * t + 7) (by omega) (by omega), e (16 + 9 * t + 8) (by omega) (by omega)]; exact q4, by rw [e _ (by omega) (by omega)]; exact q5⟩
theorem wk_gauge {x w : Int32} (hR : WK R) : WKo (sp_gauge R x w) := by
  have n0 := hR.1.1.1.2
  unfold sp_gauge
  by_cases h : x < 0 ∨ nI (nn R 0) ≤ x
  · rw [if_pos h]
    exact wk_none
  · rw [if_neg h]
    split
    · exact wk_none
    · next h2 =>
      obtain ⟨c, hc, ec, -⟩ := st_of (by omega) h
      intro R' hR'
      have hR' := Option.some.inj hR'
      rw [← hR', ec]
      refine wk_gaR hR h2 hc ?_
      split
      · exact Or.inl rfl
      · exact Or.inr rfl
end KEEP7
/-! 9zp.keep8.lean.txt -/
/-! what is well made stays so: a new PLOUGH -/
section KEEP8
variable {R R' K : Nat → Int32} {p k i g x m hh : Nat} {v : Int32}
theorem wk_comR {kk mm : Nat} {ra rb : Int32} (hR : WK R) (h3 : nn R 3 ≠ 12) (hk : kk ≤ 4) (hm : mm ≤ 10000) (h4 : kk = 4 → ∃ a b, a < nn R 3 ∧ b < nn R 3 ∧ ra = nI a ∧ rb = nI b ∧ nn R (9426 + 13 * a) ≤ 3 ∧ nn R (9426 + 13 * b) ≤ 3) : WK (comR R (nI kk) (nI mm) ra rb) := by
  obtain ⟨⟨hN, hG, hW, hC, hP, hD⟩, hO⟩ := hR
  have n1 := hN.2.1.2
  have n2 := hN.2.2.1.2
  have n3 := hN.2.2.2.1.2
  have e : ∀ j, j ≠ 3 → (j < 9426 + 13 * nn R 3 ∨ 9426 + 13 * nn R 3 + 13 ≤ j) → comR R (nI kk) (nI mm) ra rb j = R j := fun j q1 q2 => by
    unfold comR
    rw [va_up_n (by omega), va_up_n (by omega), va_up_n (by omega), va_up_n (by omega), va_up_n (by omega)]
    exact zr_out (by omega)
  have en : ∀ j, j ≠ 3 → (j < 9426 + 13 * nn R 3 ∨ 9426 + 13 * nn R 3 + 13 ≤ j) → nn (comR R (nI kk) (nI mm) ra rb) j = nn R j := fun j q1 q2 => by unfold nn; rw [e j q1 q2]
  have c3 : comR R (nI kk) (nI mm) ra rb 3 = nI (nn R 3 + 1) := va_up_s
  have e3 : nn (comR R (nI kk) (nI mm) ra rb) 3 = nn R 3 + 1 := by
    unfold nn at c3 ⊢
    rw [c3, nI_clamp (by have := n3; unfold nn at this; omega)]
  have z : ∀ x, x < 13 → x ≠ 0 → x ≠ 1 → x ≠ 3 → x ≠ 4 → comR R (nI kk) (nI mm) ra rb (9426 + 13 * nn R 3 + x) = 0 := fun x hx a0 a1 a3 a4 => by
    unfold comR
    rw [va_up_n (by omega), va_up_n (by omega), va_up_n (by omega), va_up_n (by omega), va_up_n (by omega)]
    exact zr_in (by omega)
  have z0 : comR R (nI kk) (nI mm) ra rb (9426 + 13 * nn R 3) = nI kk := by
    unfold comR
    rw [va_up_n (by omega), va_up_n (by omega), va_up_n (by omega), va_up_n (by omega)]
    exact va_up_s
  have z1 : comR R (nI kk) (nI mm) ra rb (9426 + 13 * nn R 3 + 1) = nI mm := by
    unfold comR
    rw [va_up_n (by omega), va_up_n (by omega), va_up_n (by omega)]
    exact va_up_s
  have z3 : comR R (nI kk) (nI mm) ra rb (9426 + 13 * nn R 3 + 3) = ra := by
    unfold comR
    rw [va_up_n (by omega), va_up_n (by omega)]
    exact va_up_s
  have z4 : comR R (nI kk) (nI mm) ra rb (9426 + 13 * nn R 3 + 4) = rb := by
    unfold comR
    rw [va_up_n (by omega)]
    exact va_up_s
  have zn0 : nn (comR R (nI kk) (nI mm) ra rb) (9426 + 13 * nn R 3) = kk := (congrArg Int32.toNatClampNeg z0).trans (nI_clamp (by omega))
  have zn1 : nn (comR R (nI kk) (nI mm) ra rb) (9426 + 13 * nn R 3 + 1) = mm := (congrArg Int32.toNatClampNeg z1).trans (nI_clamp (by omega))
  refine ⟨⟨?_, fun g hg => ?_, fun t ht => ?_, ⟨fun g hg => ?_, fun k hk => ?_⟩, fun p hp => ?_, fun j hj => ?_⟩, fun p hp q x h5 hx => ?_⟩
  · unfold WN
    rw [en 0 (by omega) (by omega), en 1 (by omega) (by omega), en 2 (by omega) (by omega), e3, en 4 (by omega) (by omega), e 0 (by omega) (by omega), e 1 (by omega) (by omega), e 2 (by omega) (by omega), c3, e 4 (by omega) (by omega)]
    exact ⟨hN.1, hN.2.1, hN.2.2.1, ⟨rfl, by omega⟩, hN.2.2.2.2⟩
  · rw [en 2 (by omega) (by omega)] at hg
    rw [e _ (by omega) (by omega), en _ (by omega) (by omega)]
    exact hG g hg
  · rw [en 1 (by omega) (by omega)] at ht
    have es : sln (comR R (nI kk) (nI mm) ra rb) t = sln R t := en _ (by omega) (by omega)
    rw [e (16 + 9 * t + 7) (by omega) (by omega), e (16 + 9 * t + 8) (by omega) (by omega), e (16 + 9 * t + 6) (by omega) (by omega), e (16 + 9 * t + 5) (by omega) (by omega), e (16 + 9 * t + 4) (by omega) (by omega), e (16 + 9 * t + 3) (by omega) (by omega), en (16 + 9 * t + 3) (by omega) (by omega), es, en 0 (by omega) (by omega)]
    exact hW t ht
  · rw [en 2 (by omega) (by omega)] at hg
    rw [e _ (by omega) (by omega), e _ (by omega) (by omega), en 0 (by omega) (by omega)]
    exact hC.1 g hg
  · obtain ⟨g, hh, q1, q2, q3⟩ := hk
    rw [en 2 (by omega) (by omega)] at q1
    rw [en _ (by omega) (by omega)] at q2
    have := (hG g q1).2
    rw [e _ (by omega) (by omega)]
    exact hC.2 k ⟨g, hh, q1, q2, q3⟩
  · rw [e3] at hp
    by_cases ep : p = nn R 3
    · rw [ep, e3, en 4 (by omega) (by omega), z0, zn0, z1, zn1, z3, z4, z 2 (by omega) (by omega) (by omega) (by omega) (by omega), z 6 (by omega) (by omega) (by omega) (by omega) (by omega), z 7 (by omega) (by omega) (by omega) (by omega) (by omega), z 8 (by omega) (by omega) (by omega) (by omega) (by omega)]
      refine ⟨⟨rfl, hk⟩, fun q => ?_, ⟨rfl, hm⟩, Or.inl rfl, ⟨0, 0, 0, rfl, rfl, rfl, Nat.le_refl _, Nat.zero_le _⟩⟩
      obtain ⟨a, b, r1, r2, r3, r4, r5, r6⟩ := h4 q
      exact ⟨a, b, by omega, by omega, r3, r4, by rw [en _ (by omega) (by omega)]; exact r5, by rw [en _ (by omega) (by omega)]; exact r6⟩
    · have hp3 : p < nn R 3 := by omega
      rw [e3, en 4 (by omega) (by omega), e (9426 + 13 * p) (by omega) (by omega), en (9426 + 13 * p) (by omega) (by omega), e (9426 + 13 * p + 3) (by omega) (by omega), e (9426 + 13 * p + 4) (by omega) (by omega), e (9426 + 13 * p + 1) (by omega) (by omega), en (9426 + 13 * p + 1) (by omega) (by omega), e (9426 + 13 * p + 2) (by omega) (by omega), e (9426 + 13 * p + 6) (by omega) (by omega), e (9426 + 13 * p + 7) (by omega) (by omega), e (9426 + 13 * p + 8) (by omega) (by omega)]
      obtain ⟨q1, q2, q3⟩ := hP p hp3
      refine ⟨q1, fun q => ?_, q3⟩
      obtain ⟨a, b, r1, r2, r3, r4, r5, r6⟩ := q2 q
      exact ⟨a, b, by omega, by omega, r3, r4, by rw [en _ (by omega) (by omega)]; exact r5, by rw [en _ (by omega) (by omega)]; exact r6⟩
  · rw [en 4 (by omega) (by omega)] at hj
    obtain ⟨t, c, q1, q2, q3, q4, q5⟩ := hD j hj
    exact ⟨t, c, by rw [en 1 (by omega) (by omega)]; exact q1, by rw [e _ (by omega) (by omega)]; exact q2, by rw [e _ (by omega) (by omega)]; exact q3, by rw [e (16 + 9 * t + 7) (by omega) (by omega), e (16 + 9 * t + 8) (by omega) (by omega)]; exact q4, by rw [e _ (by omega) (by omega)]; exact q5⟩
  · rw [e3] at hp
    by_cases ep : p = nn R 3
    · rw [ep, z 2 (by omega) (by omega) (by omega) (by omega) (by omega)] at q
      exact absurd q (by decide)
    · rw [e _ (by omega) (by omega)] at q ⊢
      exact hO p (by omega) q x h5 hx
theorem wk_plough {a b : Int32} (hR : WK R) : WKo (sp_plough R a b) := by
  unfold sp_plough
  by_cases h : (a < 0 ∨ 3 < a) ∨ (b < 0 ∨ 10000 < b)
  · rw [if_pos h]
    exact wk_none
  · rw [if_neg h]
    split
    · exact wk_none
    · next h3 =>
      obtain ⟨i, hi, ei, -⟩ := st_of (x := a) (n := 4) (by decide) (fun q => h (Or.inl (q.imp id (fun q => (lt_pred (n := 4) (by decide)).mpr q))))
      obtain ⟨j, hj, ej, -⟩ := st_of (x := b) (n := 10001) (by decide) (fun q => h (Or.inr (q.imp id (fun q => (lt_pred (n := 10001) (by decide)).mpr q))))
      intro R' hR'
      have hR' := Option.some.inj hR'
      rw [← hR', ei, ej]
      exact wk_comR hR h3 (by omega) (by omega) (fun q => by omega)
end KEEP8
/-! 9zq.keep9.lean.txt -/
/-! what is well made stays so: pair -/
section KEEP9
variable {R R' K : Nat → Int32} {p k i g x m hh : Nat} {v : Int32}
theorem lv_k0 (p' : Nat) : lvR R p (9426 + 13 * p') = R (9426 + 13 * p') := by
  by_cases e : p' = p
  · subst e
    unfold lvR
    rw [lpR_n (by omega), va_up_n (by omega)]
  · exact lvR_n (by omega)
theorem lv_3 : nn (lvR R p) 3 = nn R 3 := congrArg Int32.toNatClampNeg (lvR_n (by omega))
theorem unf_k3 (hR : WK R) (hp : p < nn R 3) (h : unf R p = 0) : nn R (9426 + 13 * p) ≤ 3 := by
  obtain ⟨⟨q1, q2⟩, -⟩ := hR.1.2.2.2.2.1 p hp
  unfold unf at h
  by_cases h2 : R (9426 + 13 * p + 2) = 1
  · rw [if_pos h2] at h
    exact absurd h (by decide)
  · rw [if_neg h2] at h
    by_cases h4 : R (9426 + 13 * p) = 4
    · rw [if_pos h4] at h
      exact absurd h (by decide)
    · have : nn R (9426 + 13 * p) ≠ 4 := fun e => h4 (by rw [q1, e]; rfl)
      omega
theorem wk_pair {a b c : Int32} (hR : WK R) : WKo (sp_pair R a b c) := by
  have n3 := hR.1.1.2.2.2.1.2
  unfold sp_pair
  by_cases h : ((a < 0 ∨ nI (nn R 3) ≤ a) ∨ (b < 0 ∨ nI (nn R 3) ≤ b)) ∨ a = b ∨ (c < 0 ∨ 10000 < c)
  · rw [if_pos h]
    exact wk_none
  · rw [if_neg h]
    obtain ⟨i, hi, ei, ai⟩ := st_of (x := a) (by omega) (fun q => h (Or.inl (Or.inl q)))
    obtain ⟨j, hj, ej, aj⟩ := st_of (x := b) (by omega) (fun q => h (Or.inl (Or.inr q)))
    obtain ⟨m, hm, em, -⟩ := st_of (x := c) (n := 10001) (by decide) (fun q => h (Or.inr (Or.inr (q.imp id (fun q => (lt_pred (n := 10001) (by decide)).mpr q)))))
    by_cases h3 : nn R 3 = 12
    · rw [if_pos h3]
      exact wk_none
    · rw [if_neg h3, ai, aj]
      by_cases u1 : unf R i = 0
      · rw [if_pos u1]
        by_cases u2 : unf R j = 0
        · rw [if_pos u2]
          intro R' hR'
          have hR' := Option.some.inj hR'
          rw [← hR', em, ei, ej]
          have k1 := wk_lvR hR hi
          have k2 := wk_lvR k1 (show j < nn (lvR R i) 3 by rw [lv_3]; exact hj)
          have e3 : nn (lvR (lvR R i) j) 3 = nn R 3 := by rw [lv_3, lv_3]
          have ek : ∀ p, nn (lvR (lvR R i) j) (9426 + 13 * p) = nn R (9426 + 13 * p) := fun p => congrArg Int32.toNatClampNeg ((lv_k0 p).trans (lv_k0 p))
          exact wk_comR (kk := 4) k2 (by rw [e3]; exact h3) (by omega) (by omega) (fun _ => ⟨i, j, by rw [e3]; exact hi, by rw [e3]; exact hj, rfl, rfl, by rw [ek]; exact unf_k3 hR hi u1, by rw [ek]; exact unf_k3 hR hj u2⟩)
        · rw [if_neg u2]
          exact wk_none
      · rw [if_neg u1]
        exact wk_none
end KEEP9
/-! 9zr.keepA.lean.txt -/
/-! what is well made stays so: row copy copies -/
section KEEPA
variable {R R' K : Nat → Int32} {p k i g x m b hh f t : Nat} {v w : Int32}
theorem rowF_5 {j : Nat} (hj : j < 4000) : ∀ k, b + k ≤ 4000 → rowF R b k (5426 + j) = if b ≤ j ∧ j < b + k then 0 else R (5426 + j)
  | 0, _ => by
    rw [if_neg (by omega)]
    rfl
  | k + 1, h => by
    show va_up (va_up (rowF R b k) (1426 + (b + k)) 0) (5426 + (b + k)) 0 (5426 + j) = _
    by_cases e : j = b + k
    · rw [e, va_up_s, if_pos ⟨by omega, by omega⟩]
    · rw [va_up_n (by omega), va_up_n (by omega), rowF_5 hj k (by omega)]
      by_cases q : b ≤ j ∧ j < b + k
      · rw [if_pos q, if_pos ⟨q.1, by omega⟩]
      · rw [if_neg q, if_neg (by omega)]
theorem wk_row {x n : Int32} (hR : WK R) : WKo (sp_row R x n) := by
  have n2 := hR.1.1.2.2.1.2
  unfold sp_row
  by_cases q : x < 0 ∨ nI (nn R 2) ≤ x
  · rw [if_pos q]
    exact wk_none
  rw [if_neg q]
  obtain ⟨g, hg, -, e⟩ := st_of (by omega) q
  rw [e]
  by_cases h1 : n ≤ 200
  · rw [if_pos h1]
    by_cases h0 : 0 ≤ n
    · rw [if_pos h0]
      obtain ⟨m, hm, em, e3⟩ := st_of (x := n) (n := 201) (by decide) (fun r => r.elim (Int32.not_lt.mpr h0) (fun r => absurd (Int32.le_trans r h1) (by decide)))
      rw [e3]
      intro R' hR'
      have hR' := Option.some.inj hR'
      have o1 : ∀ j, j < 1426 ∨ 9426 ≤ j → R' j = va_up R (1366 + 3 * g + 2) n j := fun j hj => by
        rw [← hR']
        exact rowF_out _ (by omega) m (by omega)
      have on : ∀ j, (j < 1426 ∨ 9426 ≤ j) → j ≠ 1366 + 3 * g + 2 → R' j = R j := fun j hj hne => (o1 j hj).trans (va_up_n hne)
      have nm : R' (1366 + 3 * g + 2) = nI m := by rw [o1 _ (by omega), va_up_s, em]
      have nmm : nn R' (1366 + 3 * g + 2) = m := by
        unfold nn
        rw [nm, nI_clamp (by omega)]
      have e2 : nn R' 2 = nn R 2 := nn_eq (on 2 (by omega) (by omega))
      have e0 : nn R' 0 = nn R 0 := nn_eq (on 0 (by omega) (by omega))
      refine wk_gau hR (fun j hj => on j (by omega) (by omega)) (fun g' hg' => ?_) ⟨fun g' hg' => ?_, fun k hk => ?_⟩
      · rw [e2] at hg'
        by_cases eg : g' = g
        · rw [eg, nmm, nm]
          exact ⟨Or.inr rfl, by omega⟩
        · rw [on (1366 + 3 * g' + 2) (by omega) (by omega), nn_eq (on (1366 + 3 * g' + 2) (by omega) (by omega))]
          exact hR.1.2.1 g' hg'
      · rw [e2] at hg'
        rw [on (1366 + 3 * g') (by omega) (by omega), on (1366 + 3 * g' + 1) (by omega) (by omega), e0]
        exact hR.1.2.2.2.1.1 g' hg'
      · obtain ⟨g', hh, q1, q2, q3⟩ := hk
        rw [e2] at q1
        by_cases eg : g' = g
        · rw [eg, nmm] at q2
          have : R' (5426 + k) = 0 := by
            rw [← hR', rowF_5 (by omega) m (by omega), if_pos ⟨by rw [q3, eg]; omega, by rw [q3, eg]; omega⟩]
          exact Or.inl this
        · have en := nn_eq (on (1366 + 3 * g' + 2) (by omega) (by omega))
          rw [en] at q2
          have gk := (hR.1.2.1 g' q1).2
          have : R' (5426 + k) = R (5426 + k) := by
            rw [← hR', rowF_5 (by omega) m (by omega), if_neg (by omega), va_up_n (by omega)]
          rw [this]
          exact hR.1.2.2.2.1.2 k ⟨g', hh, q1, q2, q3⟩
    · rw [if_neg h0]
      exact wk_none
  · rw [if_neg h1]
    exact wk_none
theorem wk_cp {i j m : Int32} (hR : WK R) (hf : f < nn R 2) (ht : t < nn R 2) (h : agn R f i t j m = 0) : WK (cpR R (200 * f + i.toNatClampNeg) (200 * t + j.toNatClampNeg) m.toNatClampNeg) := by
  have n2 := hR.1.1.2.2.1.2
  obtain ⟨ii, jj, mm, rfl, rfl, rfl, h1, h2, h3, h4⟩ := agn_0 hR.1.1 hR.1.2.1 hf ht h
  rw [nI_clamp (by omega), nI_clamp (by omega), nI_clamp (by omega)]
  have out : ∀ x, x < 1426 ∨ 9426 ≤ x → cpR R (200 * f + ii) (200 * t + jj) mm x = R x := fun x hx => cp_out (by omega) hx
  have e2 : nn (cpR R (200 * f + ii) (200 * t + jj) mm) 2 = nn R 2 := nn_eq (out 2 (by omega))
  have e0 : nn (cpR R (200 * f + ii) (200 * t + jj) mm) 0 = nn R 0 := nn_eq (out 0 (by omega))
  refine wk_gau hR (fun x hx => out x (by omega)) (fun g hg => ?_) ⟨fun g hg => ?_, fun k hk => ?_⟩
  · rw [e2] at hg
    rw [out (1366 + 3 * g + 2) (by omega), nn_eq (out (1366 + 3 * g + 2) (by omega))]
    exact hR.1.2.1 g hg
  · rw [e2] at hg
    rw [out (1366 + 3 * g) (by omega), out (1366 + 3 * g + 1) (by omega), e0]
    exact hR.1.2.2.2.1.1 g hg
  · obtain ⟨g, hh, q1, q2, q3⟩ := hk
    rw [e2] at q1
    rw [nn_eq (out (1366 + 3 * g + 2) (by omega))] at q2
    have gk := (hR.1.2.1 g q1).2
    by_cases q : 200 * t + jj ≤ k ∧ k < 200 * t + jj + mm
    · have e : cpR R (200 * f + ii) (200 * t + jj) mm (5426 + k) = R (5426 + (200 * f + (ii + (k - (200 * t + jj))))) := by
        unfold cpR
        rw [if_neg (by omega), if_pos (by omega)]
        congr 1
        omega
      rw [e]
      exact hR.1.2.2.2.1.2 _ ⟨f, ii + (k - (200 * t + jj)), hf, by omega, rfl⟩
    · have e : cpR R (200 * f + ii) (200 * t + jj) mm (5426 + k) = R (5426 + k) := by
        unfold cpR
        rw [if_neg (by omega), if_neg (by omega)]
      rw [e]
      exact hR.1.2.2.2.1.2 k ⟨g, hh, q1, q2, q3⟩
theorem wk_copy {x i x2 j m : Int32} (hR : WK R) : WKo (sp_copy R x i x2 j m) := by
  have n2 := hR.1.1.2.2.1.2
  unfold sp_copy
  by_cases q : ((x < 0 ∨ nI (nn R 2) ≤ x) ∨ (x2 < 0 ∨ nI (nn R 2) ≤ x2)) ∨ R (1366 + 3 * x.toNatClampNeg + 1) ≠ R (1366 + 3 * x2.toNatClampNeg + 1)
  · rw [if_pos q]
    exact wk_none
  rw [if_neg q]
  obtain ⟨f, hf, -, e⟩ := st_of (by omega) (fun r => q (Or.inl (Or.inl r)))
  obtain ⟨t, ht, -, e2⟩ := st_of (by omega) (fun r => q (Or.inl (Or.inr r)))
  rw [e, e2]
  by_cases h : agn R f i t j m = 0
  · rw [if_pos h]
    intro R' hR'
    rw [← Option.some.inj hR']
    exact wk_cp hR hf ht h
  · rw [if_neg h]
    exact wk_none
theorem wk_cps {i j m : Int32} (hR : WK R) : ∀ k, cok R i j m k → WK (cpsF R i.toNatClampNeg j.toNatClampNeg m.toNatClampNeg k)
  | 0, _ => hR
  | k + 1, h => by
    have hk : cok R i j m k := ⟨Nat.le_of_succ_le h.1, fun g hg => h.2 g (Nat.lt_succ_of_lt hg)⟩
    have hk2 : k < nn R 2 := h.1
    have ih := wk_cps hR k hk
    have e2 := cps_nn hR.1 (t := 2) (by omega) hk
    exact wk_cp ih (by rw [e2]; exact hk2) (by rw [e2]; exact hk2) ((cps_agn hR.1 hk hk2).trans (h.2 k (Nat.lt_succ_self k)))
theorem cok_k {i j m : Int32} : ∀ (n k : Nat), k + n = nn R 2 → cok R i j m k → cok R i j m (cpk R i j m n k)
  | 0, _, _, h => h
  | n + 1, k, hk, h => by
    by_cases h0 : agn R k i k j m = 0
    · rw [show cpk R i j m (n + 1) k = cpk R i j m n (k + 1) from if_pos h0]
      exact cok_k n (k + 1) (by omega) (cok_s h (by omega) h0)
    · rw [show cpk R i j m (n + 1) k = k from if_neg h0]
      exact h
theorem wk_copies {i j m : Int32} (hR : WK R) : WKo (sp_copies R i j m) := by
  intro R' h
  unfold sp_copies cpo at h
  have h : (if cpk R i j m (nn R 2) 0 = 0 then none else some (cpsF R i.toNatClampNeg j.toNatClampNeg m.toNatClampNeg (cpk R i j m (nn R 2) 0))) = some R' := h
  split at h
  · cases h
  · rw [← Option.some.inj h]
    exact wk_cps hR _ (cok_k (nn R 2) 0 (Nat.zero_add _) ⟨Nat.zero_le _, fun g hg => absurd hg (Nat.not_lt_zero g)⟩)
end KEEPA
