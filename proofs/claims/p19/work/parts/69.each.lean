section EA
variable {β : Type} {Q : β → Prop} {sh : Sh} {d d0 d1 d' : Dt} {z : Nat} {ow : Nat → Nat} {R : Nat → Int32} {N : Nat} {L : Nat → Nat} {x goals : Int64} {c a b u n : Nat}
set_option maxRecDepth 20000 in
theorem shr_all : ∀ u : Fin 64, ((((nI u.val).toInt64 &&& 63).toBitVec).smod 64).toNat = u.val := by decide +kernel
theorem bit_shr (hc : c < 60) : bit (x >>> ((nI c).toInt64 &&& 63)) 0 = bit x c := by
  unfold bit
  have e : (x >>> ((nI c).toInt64 &&& 63)).toBitVec = x.toBitVec.sshiftRight ((((nI c).toInt64 &&& 63).toBitVec).smod 64).toNat := rfl
  rw [e, shr_all ⟨c, by omega⟩, BitVec.getLsbD_sshiftRight]
  simp
  omega
theorem bit_one : bit 1 a = decide (a = 0) := by
  have e : (1 : Int64) = bt 0 := by decide
  rw [e, bit_bt (by decide)]
  by_cases h : a = 0
  · subst h
    rfl
  · simp [h]
    omega
theorem bit_tst (hc : c < 60) : lg_cmp ((x >>> ((nI c).toInt64 &&& 63)) &&& 1) 1 = 0 ↔ bit x c = true := by
  rw [cmp0, ← bit_shr hc]
  generalize x >>> ((nI c).toInt64 &&& 63) = w
  refine ⟨fun q => ?_, fun q => bit_ext (fun j hj => ?_)⟩
  · have r : bit (w &&& 1) 0 = bit 1 0 := by rw [q]
    rw [bit_and, bit_one] at r
    simpa using r
  · rw [bit_and, bit_one]
    by_cases e : j = 0
    · subst e
      rw [q]
      rfl
    · simp [e]
/-- only lengths are touched -/
def MGa (z : Nat) (d d' : Dt) : Prop := d'.2 = d.2 ∧ ∀ a, a < z + 141 ∨ z + 200 < a → d'.1 a = d.1 a
theorem MGa.rf : MGa z d d := ⟨rfl, fun _ _ => rfl⟩
theorem MGa.gr {g : Nat} (h : MGa z d d1) (h2 : MGr z g d1 d') (hg : g < 60) : MGa z d d' := ⟨h2.1.trans h.1, fun a q => (h2.2 a (by omega)).trans (h.2 a q)⟩
theorem MGa.wfr (h : MGa z d d') : WFR z d d' := ⟨by rw [h.1], fun a q => ⟨h.2 a (by omega), by rw [h.1]⟩⟩
theorem MGa.hop (h : MGa z d d') (hH : HopOK d z R) : HopOK d' z R := by
  refine ⟨fun u v hu hv => ?_, fun u v hv hu => ?_⟩
  · rw [h.2 (z + (79 + u)) (by omega), h.1]
    exact hH.1 u v hu hv
  · rw [h.1]
    exact hH.2 u v hv hu
def EAQ (z : Nat) (R : Nat → Int32) (goals : Int64) (d d' : Dt) : Prop := WFR z d d' ∧ d'.1 (z + 77) 5 = 1 ∧ HopOK d' z R ∧ GapOK d' z R ∧ ∀ v, bit goals v = true → bit (d'.2.1 (z + 77) 4) v = true
theorem mE_loop (hN2 : 300 ≤ N) (hK : KS sh z) (hw : OWS ow z) (hN : WN R) (hW : WS R) (hf : WFR z d0 d1) (hS : SPN d1 z) (hT : TB sh d1 z ow 4 9 (nn R 1) (vS R) L) (hR0 : d1.1 (z + 3) 0 = R 0) (h5 : d1.1 (z + 77) 5 = 1) (hH : HopOK d1 z R) (hgo : ∀ j, bit goals j = true → j < nn R 0) : ∀ (p i fu : Nat) (d : Dt), i + p = nn R 0 → p < fu → MGa z d1 d → (∀ v, v < 60 → (bit (d1.2.1 (z + 77) 4) v = true ∨ (bit goals v = true ∧ v < i)) → ∀ u, u < 60 → dOK R 1000000000 u v (d.1 (z + (141 + v)) u)) → Rn (f_X10_measureEach_6 N sh fu (z + 77) goals (nI i) d) (EAQ z R goals d0)
  | 0, i, fu, d, hi, hfu, hM, hv => by
    obtain ⟨fu, rfl⟩ : ∃ q, fu = q + 1 := ⟨fu - 1, by omega⟩
    show Rn (g_X10_measureEach_6 N sh (f_X10_measureEach_6 N sh fu) (z + 77) goals (nI i) d) _
    have n0 := hN.1
    unfold g_X10_measureEach_6
    refine r_gP hK 77 10 0 3 rfl (by decide) ?_
    refine r_gI hK (i := 3) (c := 1) rfl ?_
    rw [hM.2 (z + 3) (by omega), hR0, n0.1]
    refine rn_t ((nI_leI (by omega) (by omega)).mpr (by omega)) ?_
    unfold f_X10_measureEach_53
    refine r_gJ hK (i := 77) (c := 10) rfl ?_
    refine r_pJ hK (i := 77) (c := 10) rfl ?_
    have e4 : (wJ d (z + 77) 4 (d.2.1 (z + 77) 4 ||| goals)).2.1 (z + 77) 4 = d1.2.1 (z + 77) 4 ||| goals := by
      show up2 d.2.1 (z + 77) 4 (d.2.1 (z + 77) 4 ||| goals) (z + 77) 4 = _
      rw [up2_s, va_up_s, hM.1]
    refine rn_some ⟨(hf.tr hM.wfr).tr (WFR.wJ (by omega) (by omega)), ?_, ⟨fun x y hx hy => ?_, fun x y hy hx => ?_⟩, fun v hv2 hb u hu => ?_, fun v hb => ?_⟩
    · show d.1 (z + 77) 5 = 1
      rw [hM.2 (z + 77) (by omega)]
      exact h5
    · have q := (hM.hop hH).1 x y hx hy
      have e2 : (wJ d (z + 77) 4 (d.2.1 (z + 77) 4 ||| goals)).2.1 (z + 139) = d.2.1 (z + 139) := up2_n (by omega)
      rw [e2]
      exact q
    · have e2 : (wJ d (z + 77) 4 (d.2.1 (z + 77) 4 ||| goals)).2.1 (z + 139) = d.2.1 (z + 139) := up2_n (by omega)
      rw [e2]
      exact (hM.hop hH).2 x y hy hx
    · rw [e4, bit_or, Bool.or_eq_true] at hb
      exact hv v hv2 (hb.imp id (fun r => ⟨r, by have := hgo v r; omega⟩)) u hu
    · rw [e4, bit_or, hb]
      simp
  | p + 1, i, fu, d, hi, hfu, hM, hv => by
    obtain ⟨fu, rfl⟩ : ∃ q, fu = q + 1 := ⟨fu - 1, by omega⟩
    have ih := mE_loop hN2 hK hw hN hW hf hS hT hR0 h5 hH hgo p (i + 1) fu
    show Rn (g_X10_measureEach_6 N sh (f_X10_measureEach_6 N sh fu) (z + 77) goals (nI i) d) _
    have n0 := hN.1
    unfold g_X10_measureEach_6
    refine r_gP hK 77 10 0 3 rfl (by decide) ?_
    refine r_gI hK (i := 3) (c := 1) rfl ?_
    rw [hM.2 (z + 3) (by omega), hR0, n0.1]
    refine rn_f (nI_ge (by omega) (by omega)) ?_
    refine rn_f (nI_ge (b := 60) (by omega) (by decide)) ?_
    refine r_gJ hK (i := 77) (c := 10) rfl ?_
    have hM4 : d.2.1 (z + 77) 4 = d1.2.1 (z + 77) 4 := by rw [hM.1]
    rw [hM4]
    have hbt : bit (goals &&& (d1.2.1 (z + 77) 4 ^^^ (-1))) i = true ↔ (bit goals i = true ∧ ¬ bit (d1.2.1 (z + 77) 4) i = true) := by
      rw [bit_and, bit_not (by omega), Bool.and_eq_true]
      refine and_congr Iff.rfl ?_
      cases bit (d1.2.1 (z + 77) 4) i <;> simp
    unfold f_X10_measureEach_47
    rw [nI_1]
    refine rn_ite (fun h1 => ?_) (fun h1 => ?_)
    · have h1 : ¬ (bit goals i = true ∧ ¬ bit (d1.2.1 (z + 77) 4) i = true) := fun q => h1 ((bit_tst (by omega)).mpr (hbt.mpr q))
      refine ih d (by omega) (by omega) hM (fun v hv2 hb => hv v hv2 ?_)
      rcases hb with hb | hb
      · exact Or.inl hb
      · by_cases e : v = i
        · subst e
          by_cases q : bit (d1.2.1 (z + 77) 4) v = true
          · exact Or.inl q
          · exact absurd ⟨hb.1, q⟩ h1
        · exact Or.inr ⟨hb.1, by omega⟩
    · have h1 := hbt.mp ((bit_tst (by omega)).mp (Decidable.of_not_not h1))
      refine rn_bind (k_measure hN2 hK hw hN hW (hS.wfr hM.wfr) (tb_wfr hK hw (by decide) hT hM.wfr (by omega)) (hM.hop hH) (g := i) (by omega)) (fun d2 hd => ?_)
      refine ih d2 (by omega) (by omega) (hM.gr hd.1 (by omega)) (fun v hv2 hb u hu => ?_)
      by_cases e : v = i
      · subst e
        exact hd.2 u hu
      · rw [hd.1.2 (z + (141 + v)) (by omega)]
        exact hv v hv2 (hb.imp id (fun r => ⟨r.1, by omega⟩)) u hu
theorem k_measureEach (hN2 : 300 ≤ N) (hK : KS sh z) (hw : OWS ow z) (hN : WN R) (hW : WS R) (hS : SPN d z) (hT : TB sh d z ow 4 9 (nn R 1) (vS R) L) (hy : WY d z R) (hR0 : d.1 (z + 3) 0 = R 0) (hgo : ∀ j, bit goals j = true → j < nn R 0) : Rn (f_X10_measureEach N sh (z + 77) goals d) (EAQ z R goals d) := by
  have n0 := hN.1.2
  unfold f_X10_measureEach
  refine rn_t (ks_o hK 77 10 rfl) ?_
  refine rn_bind (k_prepare hN2 hK hw hN hW hS hT hy) (fun d1 hd => ?_)
  obtain ⟨h1, h2, h3, h4⟩ := hd
  refine mE_loop hN2 hK hw hN hW h1 (hS.wfr h1) (tb_wfr hK hw (by decide) hT h1 (by omega)) (by rw [(h1.2 (z + 3) (by omega)).1]; exact hR0) h2 h3 hgo (nn R 0) 0 N d1 (by omega) (by omega) MGa.rf (fun v hv hb => ?_)
  rcases hb with hb | hb
  · exact h4 v hv hb
  · exact absurd hb.2 (Nat.not_lt_zero v)
theorem k_between (hK : KS sh z) (hS : SPN d z) (ha : a < 60) (hb : b < 60) : f_X10_between N sh (z + 77) (nI a) (nI b) d = some (d.1 (z + (141 + b)) a) := by
  refine rn_val ?_
  unfold f_X10_between
  refine rn_t (ks_o hK 77 10 rfl) ?_
  refine rn_f (nI_pos (by omega)) ?_
  refine rn_f (nI_ge (b := 60) ha (by decide)) ?_
  refine rn_f (nI_pos (by omega)) ?_
  refine rn_f (nI_ge (b := 60) hb (by decide)) ?_
  unfold f_X10_between_25
  refine rn_f (by decide) ?_
  refine r_gap hK hS hb ha ?_
  exact rn_some rfl
theorem ti_iff2 {s : Nat} {x y : Int32} (hW : WS R) (hc : c < nn R 0) (he : edge R s u c) (hd : dst R u b n) (hx : dOK R 1000000000 u b x) (hy : dOK R 1000000000 c b y) : nI (sln R s) + y = x ↔ tight R b u s c := by
  have hl := edge_sln hW he
  rcases hx with ⟨n', h1, h2, rfl⟩ | ⟨h1, _⟩
  · have en := dst_fun hd h1
    subst en
    rcases hy with ⟨m, h3, h4, rfl⟩ | ⟨h3, rfl⟩
    · rw [nI_add]
      refine ⟨fun q => ⟨hc, he, n, m, h1, h3, (nI_inj q (by omega) (by omega)).symm⟩, fun q => ?_⟩
      obtain ⟨_, _, n', m', r1, r2, r3⟩ := q
      rw [dst_fun h1 r1, dst_fun h3 r2, r3]
    · rw [nI_add]
      refine ⟨fun q => ?_, fun q => ?_⟩
      · have := nI_inj q (by omega) (by omega)
        omega
      · obtain ⟨_, _, n', m', r1, ⟨⟨p, r2, _⟩, _⟩, r3⟩ := q
        exact absurd r2 (h3 p)
  · obtain ⟨⟨p, q, _⟩, _⟩ := hd
    exact absurd q (h1 p)
theorem next_loop (hK : KS sh z) (hN : WN R) (hW : WS R) (hS : SPN d z) (hT : TB sh d z ow 4 9 (nn R 1) (vS R) L) (hH : HopOK d z R) (hb : b < nn R 0) (hgb : ∀ a, a < 60 → dOK R 1000000000 a b (d.1 (z + (141 + b)) a)) (hu : u < nn R 0) (hd : dst R u b n) (hq : nxS R b u (nxt R b u).1 (nxt R b u).2) : ∀ (p i fu : Nat), i + p = (nxt R b u).2 → p < fu → f_X10_nextStreet_22 N sh d fu (z + 77) (nI u) (nI b) (d.1 (z + (141 + b)) u) (nI i) = some (nI (nxt R b u).1)
  | 0, i, fu, hi, hfu => by
    obtain ⟨fu, rfl⟩ : ∃ q, fu = q + 1 := ⟨fu - 1, by omega⟩
    show g_X10_nextStreet_22 N sh (f_X10_nextStreet_22 N sh d fu) (z + 77) (nI u) (nI b) (d.1 (z + (141 + b)) u) (nI i) d = _
    have n0 := hN.1.2
    have n1 := hN.2.1.2
    have ei : i = (nxt R b u).2 := by omega
    obtain ⟨t1, t2, n', m', t3, t4, t5⟩ := hq.1
    refine rn_val ?_
    unfold g_X10_nextStreet_22
    refine rn_f (nI_ge (b := 60) (by omega) (by decide)) ?_
    refine r_hop hK hS (by omega) (by omega) ?_
    rw [ei]
    rcases (hH.1 u (nxt R b u).2 (by omega) (by omega)).1 with ⟨_, q2⟩ | ⟨s, q1, q2, q3⟩
    · exact absurd t2 (q2 _)
    · have hs := q2.1
      rw [q1]
      refine rn_f (nI_m1 (by omega)) ?_
      refine r_stc 6 hK hT hs (by decide) rfl ?_
      rw [(hW s hs).2.1.1]
      refine r_gap hK hS (by omega) (by omega) ?_
      have hs1 : s = (nxt R b u).1 := by
        have r1 := q3 _ t2
        have r2 : n' ≤ sln R s + m' := by
          obtain ⟨⟨p, p1, p2⟩, -⟩ := t4
          have := t3.2 (s :: p) ⟨_, t1, q2, p1⟩
          have e : wln R (s :: p) = sln R s + wln R p := rfl
          omega
        have r3 : tight R b u s (nxt R b u).2 := ⟨t1, q2, n', m', t3, t4, by omega⟩
        have r4 := hq.2 s _ r3
        omega
      have := (ti_iff2 hW t1 q2 hd (hgb u (by omega)) (hgb _ (by omega))).mpr (by rw [hs1]; exact hq.1)
      refine rn_f (fun q => q this) ?_
      rw [hs1]
      exact rn_some rfl
  | p + 1, i, fu, hi, hfu => by
    obtain ⟨fu, rfl⟩ : ∃ q, fu = q + 1 := ⟨fu - 1, by omega⟩
    have ih := next_loop hK hN hW hS hT hH hb hgb hu hd hq p (i + 1) fu (by omega) (by omega)
    show g_X10_nextStreet_22 N sh (f_X10_nextStreet_22 N sh d fu) (z + 77) (nI u) (nI b) (d.1 (z + (141 + b)) u) (nI i) d = _
    have n0 := hN.1.2
    have n1 := hN.2.1.2
    have hc2 := hq.1.1
    refine rn_val ?_
    unfold g_X10_nextStreet_22 f_X10_nextStreet_77
    rw [nI_1, ih]
    refine rn_f (nI_ge (b := 60) (by omega) (by decide)) ?_
    refine r_hop hK hS (by omega) (by omega) ?_
    rcases (hH.1 u i (by omega) (by omega)).1 with ⟨q1, q2⟩ | ⟨s, q1, q2, q3⟩
    · rw [q1]
      exact rn_t rfl (rn_some rfl)
    · have hs := q2.1
      rw [q1]
      refine rn_f (nI_m1 (by omega)) ?_
      refine r_stc 6 hK hT hs (by decide) rfl ?_
      rw [(hW s hs).2.1.1]
      refine r_gap hK hS (by omega) (by omega) ?_
      refine rn_t (fun q => ?_) (rn_some rfl)
      have ht := (ti_iff2 hW (by omega) q2 hd (hgb u (by omega)) (hgb i (by omega))).mp q
      have := hq.2 s i ht
      omega
/-- the next STREET of THE WAY to a CROSSING that was measured -/
theorem k_nextStreet (hN2 : 300 ≤ N) (hK : KS sh z) (hN : WN R) (hW : WS R) (hS : SPN d z) (hT : TB sh d z ow 4 9 (nn R 1) (vS R) L) (hH : HopOK d z R) (hb : b < nn R 0) (hgb : ∀ a, a < 60 → dOK R 1000000000 a b (d.1 (z + (141 + b)) a)) (hu : u < nn R 0) : ((∃ n, dst R u b n) → u ≠ b → f_X10_nextStreet N sh (z + 77) (nI u) (nI b) d = some (nI (nxt R b u).1)) ∧ ((u = b ∨ ∀ p, ¬ wk R p u b) → f_X10_nextStreet N sh (z + 77) (nI u) (nI b) d = some (-1)) := by
  have n0 := hN.1.2
  refine ⟨fun hd hne => ?_, fun h => ?_⟩
  · obtain ⟨n, hd⟩ := hd
    have hq := nxt_ok hd hne
    have hc2 := hq.1.1
    unfold f_X10_nextStreet
    rw [if_pos (ks_o hK 77 10 rfl), k_between hK hS (by omega) (by omega)]
    show (if d.1 (z + (141 + b)) u = 0 then _ else _) = _
    rcases hgb u (by omega) with ⟨n', h1, h2, h3⟩ | ⟨h1, _⟩
    · have en := dst_fun hd h1
      subst en
      have hpos : 0 < n := by
        obtain ⟨_, t2, n', m', t3, _, t5⟩ := hq.1
        have := dst_fun hd t3
        have := edge_sln hW t2
        omega
      have e1 : ¬ d.1 (z + (141 + b)) u = 0 := by
        rw [h3]
        exact nI_ne0 hpos (by omega)
      have e2 : d.1 (z + (141 + b)) u < 1000000000 := by
        rw [h3]
        exact nI_lt (b := 1000000000) (by omega) (by decide)
      rw [if_neg e1, if_pos e2]
      exact next_loop hK hN hW hS hT hH hb hgb hu hd hq (nxt R b u).2 0 N (by omega) (by omega)
    · obtain ⟨⟨p, q, _⟩, _⟩ := hd
      exact absurd q (h1 p)
  · unfold f_X10_nextStreet
    rw [if_pos (ks_o hK 77 10 rfl), k_between hK hS (by omega) (by omega)]
    show (if d.1 (z + (141 + b)) u = 0 then _ else _) = _
    rcases hgb u (by omega) with ⟨n', h1, h2, h3⟩ | ⟨h1, h3⟩
    · rcases h with h | h
      · subst h
        have := dst_fun h1 dst_b
        subst this
        rw [h3, if_pos nI_0]
        rfl
      · obtain ⟨⟨p, q, _⟩, _⟩ := h1
        exact absurd q (h p)
    · rw [h3, if_neg (by decide), if_neg (by decide)]
      rfl
end EA
