/-! the class: prepare() -/
section PR
variable {β : Type} {Q : β → Prop} {s : AS} {sh : Sh} {d d0 d' : Dt} {z : Nat} {ow : Nat → Nat} {R K : Nat → Int32} {u : Bool} {y : YL} {c N : Nat} {L : Nat → Nat}
/-- only the cells of THE WAYS are touched -/
def WFR (z : Nat) (d d' : Dt) : Prop := d'.2.2 = d.2.2 ∧ ∀ a, a < z + 77 ∨ z + 200 < a → d'.1 a = d.1 a ∧ d'.2.1 a = d.2.1 a
theorem WFR.rf : WFR z d d := ⟨rfl, fun _ _ => ⟨rfl, rfl⟩⟩
theorem WFR.tr {d1 d2 : Dt} (h1 : WFR z d d1) (h2 : WFR z d1 d2) : WFR z d d2 := ⟨h2.1.trans h1.1, fun a q => ⟨(h2.2 a q).1.trans (h1.2 a q).1, (h2.2 a q).2.trans (h1.2 a q).2⟩⟩
theorem WFR.wI {i k : Nat} {v : Int32} (h1 : 77 ≤ i) (h2 : i ≤ 200) : WFR z d (wI d (z + i) k v) := ⟨rfl, fun a q => ⟨wI_n (by omega), rfl⟩⟩
theorem WFR.wJ {i k : Nat} {v : Int64} (h1 : 77 ≤ i) (h2 : i ≤ 200) : WFR z d (wJ d (z + i) k v) := ⟨rfl, fun a q => ⟨rfl, up2_n (by omega)⟩⟩
theorem WFR.row {i : Nat} {f : Nat → Int32} (h1 : 77 ≤ i) (h2 : i ≤ 200) : WFR z d (va_up d.1 (z + i) f, d.2) := ⟨rfl, fun a q => ⟨va_up_n (by omega), rfl⟩⟩
theorem WFR.rowJ {i : Nat} {f : Nat → Int64} (h1 : 77 ≤ i) (h2 : i ≤ 200) : WFR z d (d.1, va_up d.2.1 (z + i) f, d.2.2) := ⟨rfl, fun a q => ⟨rfl, va_up_n (by omega)⟩⟩
theorem WFR.fd (h : WFR z d d') (hw : OWS ow z) : FD (IX z ow 77 200) d d' := fun a ha => by
  have q : a < z + 77 ∨ z + 200 < a := by
    rcases Nat.lt_or_ge a (z + 77) with q | q
    · exact Or.inl q
    · rcases Nat.lt_or_ge (z + 200) a with q2 | q2
      · exact Or.inr q2
      · refine absurd ?_ ha
        obtain ⟨i, rfl⟩ : ∃ i, a = z + i := ⟨a - z, by omega⟩
        have h0 := cO_ways (i := i) (by omega) (by omega)
        rw [Bool.and_eq_true] at h0
        unfold IX
        rw [onr_s (hw i (by omega) (Nat.eq_of_beq_eq_true h0.2)) (by omega)]
        omega
  have r := h.2 a q
  exact ⟨r.1, r.2, by rw [h.1], by rw [h.1]⟩
theorem tb_wfr {o nc S : Nat} {V : Nat → Nat → Int32} (hK : KS sh z) (hw : OWS ow z) (hk : tck o nc = true) (ht : TB sh d z ow o nc S V L) (h : WFR z d d') (hx : 200 < o ∨ o + 1 < 77) : TB sh d' z ow o nc S V L := tb_ix (s := (sh, d)) (s' := (sh, d')) ht hK hw hk ((h.fd hw).es) hx
/-- THE WAYS are found anew: all else stands -/
theorem ci_wy (h : CI s z ow R K u y c) (hf : WFR z s.2 d') (hy : WY d' z R) : CI (s.1, d') z ow R K u y c ∧ RFR z s (s.1, d') := by
  obtain ⟨hK, hw, b1, b2, b3, b4, b5, b6, b7, b8, b9, b10, b11⟩ := h
  have he : ES (IX z ow 77 200) s ow (s.1, d') ow := FD.es (sh := s.1) (d := s.2) (hf.fd hw)
  have r0 := es_row hK hw he (i := 0) (by decide) (by omega)
  refine ⟨⟨hK, hw, bk_ix b1 (Or.inl rfl) hK hw he (by omega), bk_ix b2 (Or.inr rfl) hK hw he (by omega), ?_, pb_ix b4 hK hw he (by omega) (by omega), pb_ix b5 hK hw he (by omega) (by omega), hy, prl_ix b7 hK hw he (by omega), prt_ix b8 b3 hK hw he (by omega), by rw [r0.1]; exact b9, b10, b11.1, tln_eq b11.2 (congrFun (es_row hK hw he (i := 201) (by decide) (by omega)).1 7)⟩, RFR.ix hK hw he (by omega)⟩
  obtain ⟨⟨h1, h2, h3⟩, ⟨⟨S, V, h4, h5⟩, h6⟩, ⟨a, t1, t2, t3, t4, t5, t6⟩, b, g, g1, g2, g3, g4, g5, g6, g7, g8, g9⟩ := b3
  have e2 : d'.2.2.2 = s.2.2.2.2 := by rw [hf.1]
  have Xb : ¬ IX z ow 77 200 b := fun q => by
    unfold IX at q
    rw [onr_r (o := 0) (k := 0) g2 (by omega)] at q
    omega
  have rb := (he.2.2 b g3.2.1).2.2.2.2 Xb
  refine ⟨⟨fun c hc => by rw [e2]; exact h1 c hc, fun c hc => by rw [e2]; exact h2 c hc, fun c hc => by rw [e2]; exact h3 c hc⟩, ⟨⟨S, V, tb_ix h4 hK hw (by decide) he (by omega), h5⟩, h6⟩, ⟨a, by rw [e2]; exact t1, t2, t3, t4, t5, t6⟩, b, g, by rw [e2]; exact g1, g2, g3, g4, g5, g6, by rw [r0.1]; exact g7, g8, fun i hi9 => by rw [rb.1]; exact g9 i hi9⟩
set_option maxRecDepth 20000 in
theorem ck_hop {v : Nat} (hv : v < 60) : (Nat.blt (79 + v) 264 && (Nat.beq (cTl.getD (79 + v) 99) 0 && Nat.beq (cLl.getD (79 + v) 0) 60)) = true := List.all_eq_true.mp (show (List.range 60).all (fun v => Nat.blt (79 + v) 264 && (Nat.beq (cTl.getD (79 + v) 99) 0 && Nat.beq (cLl.getD (79 + v) 0) 60)) = true by decide +kernel) v (List.mem_range.mpr hv)
set_option maxRecDepth 20000 in
theorem ck_gap {v : Nat} (hv : v < 60) : (Nat.blt (141 + v) 264 && (Nat.beq (cTl.getD (141 + v) 99) 0 && Nat.beq (cLl.getD (141 + v) 0) 60)) = true := List.all_eq_true.mp (show (List.range 60).all (fun v => Nat.blt (141 + v) 264 && (Nat.beq (cTl.getD (141 + v) 99) 0 && Nat.beq (cLl.getD (141 + v) 0) 60)) = true by decide +kernel) v (List.mem_range.mpr hv)
/-- the spines of the grids -/
def SPN (d : Dt) (z : Nat) : Prop := (∀ c, c < 60 → d.2.2.2 (z + 78) c = some (z + (79 + c))) ∧ (∀ c, c < 60 → d.2.2.2 (z + 140) c = some (z + (141 + c)))
theorem SPN.wfr (h : SPN d z) (hf : WFR z d d') : SPN d' z := by
  unfold SPN
  rw [hf.1]
  exact h
/-- a cell of hop -/
theorem r_hop {g : Int32 → Option β} {a b : Nat} (hK : KS sh z) (hS : SPN d z) (ha : a < 60) (hb : b < 60) (kk : Rn (g (d.1 (z + (79 + a)) b)) Q) : Rn ((gP sh (z + 77) 10 1).bind fun v => (aQ 5 sh d v (nI a)).bind fun v2 => (aT 0 sh d v2 (nI b)).bind g) Q := by
  refine r_gP hK 77 10 1 78 rfl (by decide) ?_
  refine rn_eq (q_aQ (ks_a hK 78 5 60 rfl) a (z + (79 + a)) rfl ha (by decide) (hS.1 a ha)) ?_
  exact rn_eq (q_aT (ks_a hK (79 + a) 0 60 (ck_hop ha)) b rfl hb (by decide)) kk
/-- a cell of gap -/
theorem r_gap {g : Int32 → Option β} {a b : Nat} (hK : KS sh z) (hS : SPN d z) (ha : a < 60) (hb : b < 60) (kk : Rn (g (d.1 (z + (141 + a)) b)) Q) : Rn ((gP sh (z + 77) 10 3).bind fun v => (aQ 5 sh d v (nI a)).bind fun v2 => (aT 0 sh d v2 (nI b)).bind g) Q := by
  refine r_gP hK 77 10 3 140 rfl (by decide) ?_
  refine rn_eq (q_aQ (ks_a hK 140 5 60 rfl) a (z + (141 + a)) rfl ha (by decide) (hS.2 a ha)) ?_
  exact rn_eq (q_aT (ks_a hK (141 + a) 0 60 (ck_gap ha)) b rfl hb (by decide)) kk
/-- a STREET's column, by way of the books -/
theorem r_stc {g : Int32 → Option β} {i : Nat} {x : Int32} (k : Nat) (hK : KS sh z) (hT : TB sh d z ow 4 9 (nn R 1) (vS R) L) (hi : i < nn R 1) (hk : k < 9) (hx : x = nI k) (kk : Rn (g (R (16 + 9 * i + k))) Q) : Rn ((gP sh (z + 77) 10 0).bind fun v => (gP sh v 1 1).bind fun v2 => (f_X8_get N sh v2 (nI i) x d).bind g) Q := by
  refine r_gP hK 77 10 0 3 rfl (by decide) ?_
  refine r_gP hK 3 1 1 4 rfl (by decide) ?_
  exact rn_eq (tb_get (o := 4) (nc := 9) (c := k) hK (by decide) hT rfl hi hx hk) kk
/-- hop and into, for the STREETS of E -/
def HopJ (d : Dt) (z : Nat) (R : Nat → Int32) (E : Nat → Nat → Nat → Prop) : Prop := (∀ a b, a < 60 → b < 60 → ((d.1 (z + (79 + a)) b = -1 ∧ ∀ s, ¬ E s a b) ∨ ∃ s, d.1 (z + (79 + a)) b = nI s ∧ E s a b ∧ ∀ s', E s' a b → sln R s < sln R s' ∨ (sln R s = sln R s' ∧ s ≤ s')) ∧ (bit (d.2.1 (z + 139) b) a = true ↔ ∃ s, E s a b)) ∧ ∀ a b, b < 60 → 60 ≤ a → bit (d.2.1 (z + 139) b) a = false
theorem k_offer {a b i : Nat} {E : Nat → Nat → Nat → Prop} (hK : KS sh z) (hN : WN R) (hW : WS R) (hS : SPN d z) (hT : TB sh d z ow 4 9 (nn R 1) (vS R) L) (ha : a < 60) (hb : b < 60) (hi : i < nn R 1) (hE : ∀ s, E s a b → s ≤ i) (hH : HopJ d z R E) : Rn (f_X10_offer N sh (z + 77) (nI a) (nI b) (nI i) d) (fun d' => WFR z d d' ∧ HopJ d' z R (fun s x y => E s x y ∨ (s = i ∧ x = a ∧ y = b))) := by
  have n1 := hN.2.1.2
  have h67 : (∀ s', E s' a b → sln R i < sln R s') → Rn (f_X10_offer_67 N sh (z + 77) (nI a) (nI b) (nI i) d) (fun d' => WFR z d d' ∧ HopJ d' z R (fun s x y => E s x y ∨ (s = i ∧ x = a ∧ y = b))) := fun hlt => by
    unfold f_X10_offer_67
    refine r_gP hK 77 10 1 78 rfl (by decide) ?_
    refine rn_eq (q_aQ (ks_a hK 78 5 60 rfl) a (z + (79 + a)) rfl ha (by decide) (hS.1 a ha)) ?_
    refine rn_eq (q_sI (ks_a hK (79 + a) 0 60 (ck_hop ha)) b rfl hb (by decide)) ?_
    refine r_gP hK 77 10 2 139 rfl (by decide) ?_
    refine rn_eq (q_aJ (ks_a hK 139 1 60 rfl) b rfl hb (by decide)) ?_
    refine rn_eq (q_sJ (ks_a hK 139 1 60 rfl) b rfl hb (by decide)) ?_
    refine rn_some ⟨(WFR.wI (by omega) (by omega)).tr (WFR.wJ (by omega) (by omega)), fun x y hx hy => ?_, fun x y hy hx => ?_⟩
    · have e1 : (wJ (wI d (z + (79 + a)) b (nI i)) (z + 139) b ((wI d (z + (79 + a)) b (nI i)).2.1 (z + 139) b ||| bt a)).1 (z + (79 + x)) y = if x = a ∧ y = b then nI i else d.1 (z + (79 + x)) y := by
        show (wI d (z + (79 + a)) b (nI i)).1 (z + (79 + x)) y = _
        by_cases q : x = a
        · subst q
          rw [wI_s]
          by_cases q2 : y = b
          · rw [q2, va_up_s, if_pos ⟨rfl, rfl⟩]
          · rw [va_up_n q2, if_neg (fun q => q2 q.2)]
        · rw [wI_n (by omega), if_neg (fun r => q r.1)]
      have e2 : (wJ (wI d (z + (79 + a)) b (nI i)) (z + 139) b ((wI d (z + (79 + a)) b (nI i)).2.1 (z + 139) b ||| bt a)).2.1 (z + 139) y = if y = b then d.2.1 (z + 139) b ||| bt a else d.2.1 (z + 139) y := by
        show up2 d.2.1 (z + 139) b (d.2.1 (z + 139) b ||| bt a) (z + 139) y = _
        rw [up2_s]
        by_cases q2 : y = b
        · rw [q2, va_up_s, if_pos rfl]
        · rw [va_up_n q2, if_neg q2]
      refine ⟨?_, ?_⟩
      · by_cases q : x = a ∧ y = b
        · obtain ⟨rfl, rfl⟩ := q
          refine Or.inr ⟨i, e1.trans (if_pos ⟨rfl, rfl⟩), Or.inr ⟨rfl, rfl, rfl⟩, fun s' hs' => ?_⟩
          rcases hs' with hs' | hs'
          · exact Or.inl (hlt s' hs')
          · exact Or.inr ⟨by rw [hs'.1], by omega⟩
        · rcases (hH.1 x y hx hy).1 with ⟨p1, p2⟩ | ⟨s, p1, p2, p3⟩
          · exact Or.inl ⟨(e1.trans (if_neg q)).trans p1, fun s hs => hs.elim (p2 s) (fun r => q r.2)⟩
          · exact Or.inr ⟨s, (e1.trans (if_neg q)).trans p1, Or.inl p2, fun s' hs' => hs'.elim (p3 s') (fun r => absurd r.2 q)⟩
      · show bit ((wJ (wI d (z + (79 + a)) b (nI i)) (z + 139) b ((wI d (z + (79 + a)) b (nI i)).2.1 (z + 139) b ||| bt a)).2.1 (z + 139) y) x = true ↔ _
        rw [e2]
        by_cases q2 : y = b
        · subst q2
          rw [if_pos rfl, bit_or, bit_bt ha]
          have hh := (hH.1 x y hx hy).2
          by_cases q : a = x
          · subst q
            exact ⟨fun _ => ⟨i, Or.inr ⟨rfl, rfl, rfl⟩⟩, fun _ => by simp⟩
          · simp only [q, decide_false, Bool.or_false]
            rw [hh]
            exact ⟨fun ⟨s, hs⟩ => ⟨s, Or.inl hs⟩, fun ⟨s, hs⟩ => hs.elim (fun r => ⟨s, r⟩) (fun r => absurd r.2.1.symm q)⟩
        · rw [if_neg q2, (hH.1 x y hx hy).2]
          exact ⟨fun ⟨s, hs⟩ => ⟨s, Or.inl hs⟩, fun ⟨s, hs⟩ => hs.elim (fun r => ⟨s, r⟩) (fun r => absurd r.2.2 q2)⟩
    · show bit (up2 d.2.1 (z + 139) b (d.2.1 (z + 139) b ||| bt a) (z + 139) y) x = false
      rw [up2_s]
      by_cases q2 : y = b
      · rw [q2, va_up_s, bit_or, bit_bt ha, hH.2 x b hb hx]
        simp
        omega
      · rw [va_up_n q2]
        exact hH.2 x y hy hx
  unfold f_X10_offer
  refine rn_t (ks_o hK 77 10 rfl) ?_
  refine rn_f (nI_pos (by omega)) ?_
  refine rn_f (nI_ge (b := 60) ha (by decide)) ?_
  refine rn_f (nI_pos (by omega)) ?_
  refine rn_t (nI_lt (b := 60) hb (by decide)) ?_
  refine r_hop hK hS ha hb ?_
  rcases (hH.1 a b ha hb).1 with ⟨p1, p2⟩ | ⟨s, p1, p2, p3⟩
  · refine rn_t p1 ?_
    exact h67 (fun s' hs' => absurd hs' (p2 s'))
  · have hsi := hE s p2
    have hsn : s < nn R 1 := by omega
    rw [p1]
    refine rn_f (nI_m1 (by omega)) ?_
    refine r_stc 6 hK hT hi (by decide) rfl ?_
    refine r_stc 6 hK hT hsn (by decide) rfl ?_
    rw [(hW i hi).2.1.1, (hW s hsn).2.1.1]
    have l1 := (hW i hi).2.1.2
    have l2 := (hW s hsn).2.1.2
    refine rn_ite (fun hle => ?_) (fun hle => ?_)
    · have hle := (nI_leI (by omega) (by omega)).mp hle
      refine rn_some ⟨WFR.rf, fun x y hx hy => ?_, hH.2⟩
      by_cases q : x = a ∧ y = b
      · obtain ⟨rfl, rfl⟩ := q
        refine ⟨Or.inr ⟨s, p1, Or.inl p2, fun s' hs' => hs'.elim (p3 s') (fun r => by rw [r.1]; omega)⟩, ?_⟩
        rw [(hH.1 x y hx hy).2]
        exact ⟨fun ⟨s, hs⟩ => ⟨s, Or.inl hs⟩, fun _ => ⟨s, p2⟩⟩
      · rcases (hH.1 x y hx hy).1 with ⟨r1, r2⟩ | ⟨s9, r1, r2, r3⟩
        · refine ⟨Or.inl ⟨r1, fun s hs => hs.elim (r2 s) (fun r => q r.2)⟩, ?_⟩
          rw [(hH.1 x y hx hy).2]
          exact ⟨fun ⟨s, hs⟩ => ⟨s, Or.inl hs⟩, fun ⟨s, hs⟩ => hs.elim (fun r => ⟨s, r⟩) (fun r => absurd r.2 q)⟩
        · refine ⟨Or.inr ⟨s9, r1, Or.inl r2, fun s' hs' => hs'.elim (r3 s') (fun r => absurd r.2 q)⟩, ?_⟩
          rw [(hH.1 x y hx hy).2]
          exact ⟨fun ⟨s, hs⟩ => ⟨s, Or.inl hs⟩, fun ⟨s, hs⟩ => hs.elim (fun r => ⟨s, r⟩) (fun r => absurd r.2 q)⟩
    · refine h67 (fun s' hs' => ?_)
      have : ¬ sln R s ≤ sln R i := fun q => hle ((nI_leI (by omega) (by omega)).mpr q)
      have := p3 s' hs'
      omega
end PR
