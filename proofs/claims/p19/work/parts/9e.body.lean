/-! new bodies: plough(), pair() of the class -/
section BDY
variable {s s' : AS} {sh : Sh} {d d' d0 : Dt} {z : Nat} {ow ow' : Nat → Nat} {R R' K : Nat → Int32} {u : Bool} {y : YL} {c c' N P P' p S a : Nat} {q q' : BL} {yy : BL × (Nat → Nat) × Nat × Nat} {V : Nat → Nat → Int32} {L : Nat → Nat}
theorem x6_init {lg : Nat} {sp rc : Int32} (h : isO s.1 a 6) : f_X6_init N a lg sp rc s = some ((s.1.1, s.1.2.1, s.1.2.2.1, up2 s.1.2.2.2 a 0 (some lg)), wI (wI s.2 a 1 sp) a 2 rc) := by
  refine rn_val ?_
  unfold f_X6_init f_X6_init_9
  refine rn_t h ?_
  refine rn_eq (v := ((s.1.1, s.1.2.1, s.1.2.2.1, up2 s.1.2.2.2 a 0 (some lg)), s.2)) (by unfold pP; rw [if_pos h]) ?_
  refine rn_eq (v := wI s.2 a 1 sp) (by unfold pI; rw [if_pos h]; rfl) ?_
  exact rn_eq (v := wI (wI s.2 a 1 sp) a 2 rc) (by unfold pI; rw [if_pos h]; rfl) (rn_some rfl)
/-- a new body, made -/
def nb (s : AS) (cl lg : Nat) (sp rc : Int32) : AS := (((nObj s cl).1.1, (nObj s cl).1.2.1, (nObj s cl).1.2.2.1, up2 (nObj s cl).1.2.2.2 s.1.1.2.1 0 (some lg)), wI (wI (nObj s cl).2 s.1.1.2.1 1 sp) s.1.1.2.1 2 rc)
theorem nb_es {cl lg lo hi : Nat} {sp rc : Int32} : ES (IX z ow lo hi) s ow (nb s cl lg sp rc) (va_up ow s.1.1.2.1 0) := by
  refine ⟨rfl, Nat.le_succ _, fun b hb => ?_⟩
  have ne : b ≠ s.1.1.2.1 := by omega
  refine ⟨va_up_n ne, va_up_n ne, ?_, va_up_n ne, fun _ => ⟨?_, va_up_n ne, va_up_n ne, va_up_n ne⟩⟩
  · show up2 (nObj s cl).1.2.2.2 s.1.1.2.1 0 (some lg) b = _
    rw [up2_n ne]
    exact va_up_n ne
  · show (wI (wI (nObj s cl).2 s.1.1.2.1 1 sp) s.1.1.2.1 2 rc).1 b = _
    rw [wI_n ne, wI_n ne]
    exact va_up_n ne
theorem nb_at {cl lg : Nat} {sp rc : Int32} (hz : s.1.1.1 ≤ s.1.1.2.1) : (nb s cl lg sp rc).1.1.1 ≤ s.1.1.2.1 ∧ s.1.1.2.1 < (nb s cl lg sp rc).1.1.2.1 ∧ (nb s cl lg sp rc).1.2.1 s.1.1.2.1 = 10 + cl ∧ (nb s cl lg sp rc).1.2.2.2 s.1.1.2.1 0 = some lg ∧ (nb s cl lg sp rc).2.1 s.1.1.2.1 1 = sp ∧ (nb s cl lg sp rc).2.1 s.1.1.2.1 2 = rc := by
  refine ⟨hz, Nat.lt_succ_self _, va_up_s, ?_, ?_, ?_⟩
  · show up2 _ s.1.1.2.1 0 (some lg) s.1.1.2.1 0 = some lg
    rw [up2_s]
    exact va_up_s
  · show (wI (wI (nObj s cl).2 s.1.1.2.1 1 sp) s.1.1.2.1 2 rc).1 s.1.1.2.1 1 = sp
    rw [wI_s, va_up_n (by decide), wI_s]
    exact va_up_s
  · show (wI (wI (nObj s cl).2 s.1.1.2.1 1 sp) s.1.1.2.1 2 rc).1 s.1.1.2.1 2 = rc
    rw [wI_s]
    exact va_up_s
theorem nb_isO {cl : Nat} (hz : s.1.1.1 ≤ s.1.1.2.1) (hc : cl = 0 ∨ cl = 3 ∨ cl = 6 ∨ cl = 7 ∨ cl = 9) : isO (nObj s cl).1 s.1.1.2.1 6 ∧ isO (nObj s cl).1 s.1.1.2.1 cl := by
  have h1 : (nObj s cl).1.2.1 s.1.1.2.1 = 10 + cl := va_up_s
  exact ⟨⟨hz, Nat.lt_succ_self _, by rw [h1]; omega⟩, ⟨hz, Nat.lt_succ_self _, by rw [h1]; omega⟩⟩
def bcl (k : Nat) : Nat := if k = 1 then 0 else if k = 2 then 7 else if k = 3 then 9 else 6
theorem k_bodyOf {k : Nat} (hk : k ≤ 3) (hK : KS s.1 z) : f_X11_bodyOf N z (nI k) s = some (s.1.1.2.1, nb s (bcl k) (z + 1) (nI (ksp k)) (nI (krc k))) := by
  have hz : s.1.1.1 ≤ s.1.1.2.1 := by have := hK.1; have := hK.2.1; omega
  have kk : ∀ cl, KS (nObj (s.1, s.2) cl).1 z := fun cl => KS.es hK (push_es (X := fun _ => False) (ow := fun _ => 0) (q := 0))
  have gp : ∀ cl, gP (nObj (s.1, s.2) cl).1 z 11 0 = some (z + 1) := fun cl => by
    have := ks_gP (kk cl) 0 11 0 1 rfl (by decide)
    rw [z0] at this
    exact this
  refine rn_val ?_
  unfold f_X11_bodyOf f_X11_bodyOf_31 f_X11_bodyOf_48 f_X11_bodyOf_65 f_X11_bodyOf_82 f_X11_bodyOf_44 f_X11_bodyOf_61 f_X11_bodyOf_78 f_X11_bodyOf_95
  refine rn_t (by rw [← z0 (z := z)]; exact ks_o hK 0 11 rfl) ?_
  rcases (show k = 0 ∨ k = 1 ∨ k = 2 ∨ k = 3 by omega) with rfl | rfl | rfl | rfl
  · refine rn_f (by decide) (rn_f (by decide) (rn_f (by decide) ?_))
    refine rn_eq (gp 6) ?_
    exact rn_eq (x6_init (nb_isO hz (by decide)).1) (rn_some rfl)
  · refine rn_t (by decide) ?_
    refine rn_eq (gp 0) ?_
    refine rn_eq (v := nb s 0 (z + 1) 30 600) ?_ (rn_some rfl)
    refine rn_val ?_
    unfold f_X0_init f_X0_init_7
    refine rn_t (nb_isO hz (by decide)).2 ?_
    exact rn_eq (x6_init (nb_isO hz (by decide)).1) (rn_some rfl)
  · refine rn_f (by decide) (rn_t (by decide) ?_)
    refine rn_eq (gp 7) ?_
    refine rn_eq (v := nb s 7 (z + 1) 45 200) ?_ (rn_some rfl)
    refine rn_val ?_
    unfold f_X7_init f_X7_init_7
    refine rn_t (nb_isO hz (by decide)).2 ?_
    exact rn_eq (x6_init (nb_isO hz (by decide)).1) (rn_some rfl)
  · refine rn_f (by decide) (rn_f (by decide) (rn_t (by decide) ?_))
    refine rn_eq (gp 9) ?_
    refine rn_eq (v := nb s 9 (z + 1) 20 400) ?_ (rn_some rfl)
    refine rn_val ?_
    unfold f_X9_init f_X9_init_7
    refine rn_t (nb_isO hz (by decide)).2 ?_
    exact rn_eq (x6_init (nb_isO hz (by decide)).1) (rn_some rfl)
theorem nb_BO {k : Nat} (hk : k ≤ 3) (hK : KS s.1 z) : BO (nb s (bcl k) (z + 1) (nI (ksp k)) (nI (krc k))).1 (nb s (bcl k) (z + 1) (nI (ksp k)) (nI (krc k))).2 z (va_up ow s.1.1.2.1 0) s.1.1.2.1 k := by
  have hz : s.1.1.1 ≤ s.1.1.2.1 := by have := hK.1; have := hK.2.1; omega
  obtain ⟨h1, h2, h3, h4, h5, h6⟩ := nb_at (s := s) (cl := bcl k) (lg := z + 1) (sp := nI (ksp k)) (rc := nI (krc k)) hz
  refine ⟨h1, h2, ?_, h4, h5, h6, va_up_s, hK.2.1⟩
  rw [h3]
  rcases (show k = 0 ∨ k = 1 ∨ k = 2 ∨ k = 3 by omega) with rfl | rfl | rfl | rfl <;> rfl
/-! the row of bodies -/
theorem tb_wQ {o nc k v : Nat} (h : TB sh d z ow o nc S V L) (ho : o + 1 ≠ 235) : TB sh (wQ d (z + 235) k v) z ow o nc S V L := by
  refine ⟨h.1, fun c hc => ?_⟩
  obtain ⟨a, h1, h2⟩ := h.2 c hc
  refine ⟨a, ?_, h2⟩
  show up2 d.2.2.2 (z + 235) k (some v) (z + (o + 1)) c = some a
  rw [up2_n (by omega)]
  exact h1
theorem bk_wQ {b k v : Nat} (h : BK sh d z ow b R q) (hb : bck b) : BK sh (wQ d (z + 235) k v) z ow b R q := by
  obtain ⟨h0, h1, h2, h3, h4, ⟨a, z1, z2⟩, h6, h7⟩ := h
  have hb2 : b = 3 ∨ b = 40 := hb
  refine ⟨h0, tb_wQ h1 (by omega), tb_wQ h2 (by omega), tb_wQ h3 (by omega), tb_wQ h4 (by omega), ⟨a, ?_, z2⟩, h6, h7⟩
  show up2 d.2.2.2 (z + 235) k (some v) (z + b) 7 = some a
  rw [up2_n (by omega)]
  exact z1
theorem cs_wQ {k v : Nat} {Lp : Nat → Nat} {Lt Lg : Nat} (h : CS sh d z ow Lp Lt Lg) : CS sh (wQ d (z + 235) k v) z ow Lp Lt Lg := by
  obtain ⟨⟨k1, k2, k3⟩, ⟨⟨S, V, k4, k5⟩, k6⟩, ⟨a, a1, a2⟩, b, g, b1, b2⟩ := h
  have e : ∀ i, i ≠ 235 → (wQ d (z + 235) k v).2.2.2 (z + i) = d.2.2.2 (z + i) := fun i hi => up2_n (by omega)
  exact ⟨⟨fun c hc => by rw [e 78 (by decide)]; exact k1 c hc, fun c hc => by rw [e 140 (by decide)]; exact k2 c hc, fun c hc => by rw [e 203 (by decide)]; exact k3 c hc⟩, ⟨⟨S, V, tb_wQ k4 (by decide), k5⟩, k6⟩, ⟨a, by rw [e 201 (by decide)]; exact a1, a2⟩, b, g, by rw [e 0 (by decide)]; exact b1, b2⟩
theorem pb_wQ {k v : Nat} (h : PB sh d z ow R) (hk : nn R 3 ≤ k) : PB sh (wQ d (z + 235) k v) z ow R := fun p hp => by
  obtain ⟨a, h1, h2⟩ := h p hp
  refine ⟨a, ?_, h2⟩
  show up2 d.2.2.2 (z + 235) k (some v) (z + 235) p = some a
  rw [up2_s, va_up_n (by omega)]
  exact h1
theorem cj_wQ {k v : Nat} (h : CJ s z ow K yy c P) (hk : nn K 3 ≤ k) : CJ (s.1, wQ s.2 (z + 235) k v) z ow K yy c P ∧ RFR z s (s.1, wQ s.2 (z + 235) k v) := by
  obtain ⟨hK, hw, b2, b3, b5, g1, g2, g3, b9, b10, b11⟩ := h
  exact ⟨⟨hK, hw, bk_wQ b2 (Or.inr rfl), cs_wQ b3, pb_wQ b5 hk, g1, g2, g3, b9, b10, b11⟩, fun i h1 h2 => ⟨rfl, rfl, rfl, up2_n (by omega)⟩⟩
theorem pot_P : pot (q.1, q.2.1, L, q.2.2.2) + smN q.2.2.1 9 = pot q + smN L 9 := by
  unfold pot
  show smN q.1 9 + smN q.2.1 3 + smN L 9 + smN q.2.2.2.1 4 + q.2.2.2.2 + smN q.2.2.1 9 = _
  omega
theorem com_n {k m x w : Int32} {j : Nat} (h3 : j ≠ 3) (h : j < 9426 + 13 * nn R 3 ∨ 9426 + 13 * nn R 3 + 13 ≤ j) : comR R k m x w j = R j := by
  unfold comR
  rw [va_up_n (by omega), va_up_n (by omega), va_up_n (by omega), va_up_n (by omega), va_up_n (by omega), zr_out (by omega)]
theorem com_3 {k m x w : Int32} (hN : WN R) : nn (comR R k m x w) 3 = nn R 3 + 1 := by
  have n3 := hN.2.2.2.1.2
  unfold nn comR
  rw [va_up_s]
  exact nI_clamp (by omega)
theorem com_at {k m x w : Int32} (t : Nat) (ht : t < 13) : comR R k m x w (9426 + 13 * nn R 3 + t) = if t = 0 then k else if t = 1 then m else if t = 3 then x else if t = 4 then w else 0 := by
  have hz : zrF R (9426 + 13 * nn R 3) 13 (9426 + 13 * nn R 3 + t) = 0 := zr_in (by omega)
  unfold comR
  rw [va_up_n (by omega)]
  by_cases h4 : t = 4
  · subst h4
    rw [va_up_s]
    rfl
  rw [va_up_n (by omega)]
  by_cases h3 : t = 3
  · subst h3
    rw [va_up_s]
    rfl
  rw [va_up_n (by omega)]
  by_cases h1 : t = 1
  · subst h1
    rw [va_up_s]
    rfl
  rw [va_up_n (by omega)]
  by_cases h0 : t = 0
  · subst h0
    rw [va_up_s]
    rfl
  rw [va_up_n (by omega), hz, if_neg h0, if_neg h1, if_neg h3, if_neg h4]
theorem com_wn {k m x w : Int32} (hN : WN R) (h : nn R 3 < 12) : WN (comR R k m x w) := by
  have e : ∀ j, j < 3 ∨ j = 4 → comR R k m x w j = R j := fun j hj => com_n (by omega) (by omega)
  have en : ∀ j, j < 3 ∨ j = 4 → nn (comR R k m x w) j = nn R j := fun j hj => by unfold nn; rw [e j hj]
  unfold WN
  rw [e 0 (by omega), e 1 (by omega), e 2 (by omega), e 4 (by omega), en 0 (by omega), en 1 (by omega), en 2 (by omega), en 4 (by omega), com_3 hN]
  exact ⟨hN.1, hN.2.1, hN.2.2.1, ⟨va_up_s, by omega⟩, hN.2.2.2.2⟩
theorem com_vP {k m x w : Int32} {c i : Nat} (hc : c < 9) : vP (comR R k m x w) c i = if i = nn R 3 then (if c = 5 then m else if c = 6 then k else 0) else vP R c i := by
  by_cases hi : i = nn R 3
  · subst hi
    rw [if_pos rfl]
    have hc9 : c = 0 ∨ c = 1 ∨ c = 2 ∨ c = 3 ∨ c = 4 ∨ c = 5 ∨ c = 6 ∨ c = 7 ∨ c = 8 := by omega
    rcases hc9 with rfl | rfl | rfl | rfl | rfl | rfl | rfl | rfl | rfl
    · exact com_at 6 (by decide)
    · exact com_at 7 (by decide)
    · exact com_at 8 (by decide)
    · exact com_at 9 (by decide)
    · exact com_at 10 (by decide)
    · exact com_at 1 (by decide)
    · show (if comR R k m x w (9426 + 13 * nn R 3 + 2) = 1 then -1 else comR R k m x w (9426 + 13 * nn R 3 + 0)) = k
      rw [com_at 2 (by decide), com_at 0 (by decide)]
      rfl
    · exact com_at 11 (by decide)
    · exact com_at 12 (by decide)
  · rw [if_neg hi]
    have e : ∀ t, t < 13 → comR R k m x w (9426 + 13 * i + t) = R (9426 + 13 * i + t) := fun t ht => com_n (by omega) (by omega)
    unfold vP
    simp only [e 6 (by omega), e 7 (by omega), e 8 (by omega), e 9 (by omega), e 10 (by omega), e 1 (by omega), e 2 (by omega), show comR R k m x w (9426 + 13 * i) = R (9426 + 13 * i) from e 0 (by omega), e 11 (by omega), e 12 (by omega)]
/-- what stands in the row of bodies for PLOUGH p -/
def BD (sh : Sh) (d : Dt) (z : Nat) (ow : Nat → Nat) (R : Nat → Int32) (p a : Nat) : Prop := (nn R (9426 + 13 * p) ≤ 3 ∧ BO sh d z ow a (nn R (9426 + 13 * p))) ∨ (nn R (9426 + 13 * p) = 4 ∧ BP sh d z ow a (nn R (9426 + 13 * nn R (9426 + 13 * p + 3))) (nn R (9426 + 13 * nn R (9426 + 13 * p + 4))))
theorem bd_ix {lo hi : Nat} (h : BD s.1 s.2 z ow R p a) (he : ES (IX z ow lo hi) s ow s' ow') (hx : hi < 1000) : BD s'.1 s'.2 z ow' R p a := by
  rcases h with h | h
  · exact Or.inl ⟨h.1, bo_ix h.2 he hx⟩
  · exact Or.inr ⟨h.1, bp_ix h.2 he hx⟩
theorem k_enlist {kd mi x w : Int32} (hNf : 300 ≤ N) (hR : WDn R) (h3 : nn R 3 < 12) (hK3 : nn K 3 ≤ nn R 3) (hJ : CJ s z ow K yy c (pot q)) (hB : BK s.1 s.2 z ow 3 R q) (hP : ∀ p, p < nn R 3 → ∃ a, s.2.2.2.2 (z + 235) p = some a ∧ BD s.1 s.2 z ow (comR R kd mi x w) p a) (ha : isO s.1 a 6) (hD : BD s.1 s.2 z ow (comR R kd mi x w) (nn R 3) a) : Rn (f_X11_enlist N z a kd mi s) (fun r => r.1 = nI (nn R 3) ∧ ∃ ow' q', CJ r.2 z ow' K yy c (pot q') ∧ RFR z s r.2 ∧ BK r.2.1 r.2.2 z ow' 3 (comR R kd mi x w) q' ∧ PB r.2.1 r.2.2 z ow' (comR R kd mi x w)) := by
  have hK := hJ.1
  have hw := hJ.2.1
  have hN := hR.1
  have ht : tck 20 9 = true := by decide
  unfold f_X11_enlist
  rw [← z0 (z := z)]
  refine rn_t (ks_o hK 0 11 rfl) ?_
  refine r_gP hK 0 11 1 3 rfl (by decide) ?_
  refine r_gP hK 3 1 3 20 rfl (by decide) ?_
  refine rn_bind (tb_add (s := s) (by omega) ht (by omega) hK hw hB.2.2.2.1) (fun r hr => ?_)
  obtain ⟨r1, ow2, L2, e2, t2, l2, p1, p2⟩ := hr
  rw [r1]
  have e2 : ES (IX z ow 20 21) s ow r.2 ow2 := e2.mono (fun b _ hb => tx_ix ht hw hb)
  have hK2 : KS r.2.1 z := KS.es hK e2
  have hw2 : OWS ow2 z := OWS.es hw hK e2
  have hL2 : ∀ c9, c9 < 9 → L2 c9 ≤ 24 := fun c9 hc9 => by
    have := l2 c9 hc9
    have := hB.2.2.2.2.2.2.2.2.2.1 c9 hc9
    omega
  have bk1 : BK r.2.1 r.2.2 z ow2 3 (comR R 0 0 0 0) (q.1, q.2.1, L2, q.2.2.2) := by
    refine bk_P hR (Or.inl rfl) hK hw hB e2 ?_ hL2 (fun k h1 h2 => com_n h1 (by omega))
    rw [com_3 hN]
    refine tb_congr t2 (fun c9 i hc hi => ?_)
    rw [com_vP hc]
    by_cases e : i = nn R 3
    · rw [if_pos e, if_pos e]
      by_cases h5 : c9 = 5
      · rw [if_pos h5]
      · rw [if_neg h5]
        by_cases h6 : c9 = 6
        · rw [if_pos h6]
        · rw [if_neg h6]
    · rw [if_neg e, if_neg e]
  have pp := pot_P (q := q) (L := L2)
  have j1 := cj_es (c' := c) (P' := pot (q.1, q.2.1, L2, q.2.2.2)) hJ e2 (by omega) (by omega) (by omega)
  unfold f_X11_enlist_10
  refine r_gP hK2 0 11 6 235 rfl (by decide) ?_
  have ha2 : isO r.2.1 a 6 := by
    have q9 := e2.2.2 a ha.2.1
    have q1 := e2.1
    have q2 := e2.2.1
    exact ⟨by rw [q1]; exact ha.1, Nat.lt_of_lt_of_le ha.2.1 q2, by rw [q9.1]; exact ha.2.2⟩
  refine rn_eq (v := wQ r.2.2 (z + 235) (nn R 3) a) ?_ ?_
  · obtain ⟨i1, i2⟩ := in_of (x := nI (nn R 3)) (n := 12) rfl h3 (by decide)
    have k235 := ks_a hK2 235 6 12 rfl
    unfold sP
    rw [k235.2, if_pos ⟨k235.1, i1, ha2⟩, i2]
    rfl
  have j2 := cj_wQ (k := nn R 3) (v := a) j1.1 hK3
  have bk2 := bk_wQ (k := nn R 3) (v := a) bk1 (Or.inl rfl)
  have hR1 : WDn (comR R 0 0 0 0) := wdn_cg hR (com_wn hN h3) (fun j h1 h2 => com_n h1 (by omega))
  refine r_gP hK2 0 11 1 3 rfl (by decide) ?_
  refine r_gP hK2 3 1 3 20 rfl (by decide) ?_
  refine rn_bind (tb_put (o := 20) (nc := 9) (c := 6) hK2 hw2 ht bk2.2.2.2.1 rfl (by rw [com_3 hN]; exact Nat.lt_succ_self _) rfl (by decide)) (fun d5 hd5 => ?_)
  refine r_gP hK2 0 11 1 3 rfl (by decide) ?_
  refine r_gP hK2 3 1 3 20 rfl (by decide) ?_
  refine rn_bind (tb_put (o := 20) (nc := 9) (c := 5) hK2 hw2 ht hd5.1 rfl (by rw [com_3 hN]; exact Nat.lt_succ_self _) rfl (by decide)) (fun d6 hd6 => rn_some ?_)
  have f6 : FD (IX z ow2 20 21) (wQ r.2.2 (z + 235) (nn R 3) a) d6 := (hd5.2.tr hd6.2).mono (fun b hb => tx_ix ht hw2 hb)
  have e6 : ES (IX z ow2 20 21) (r.2.1, wQ r.2.2 (z + 235) (nn R 3) a) ow2 (r.2.1, d6) ow2 := f6.es
  have j3 := cj_es (c' := c) (P' := pot (q.1, q.2.1, L2, q.2.2.2)) j2.1 e6 (by omega) (Nat.le_refl _) (Nat.le_refl _)
  refine ⟨rfl, ow2, (q.1, q.2.1, L2, q.2.2.2), j3.1, (j1.2.tr j2.2).tr j3.2, ?_, ?_⟩
  · refine bk_P (s := (r.2.1, wQ r.2.2 (z + 235) (nn R 3) a)) (s' := (r.2.1, d6)) (q := (q.1, q.2.1, L2, q.2.2.2)) (L' := L2) hR1 (Or.inl rfl) hK2 hw2 bk2 e6 ?_ hL2 (fun k h1 h2 => by rw [com_n h1 (by omega), com_n h1 (by omega)])
    rw [com_3 hN]
    have t6 := hd6.1
    rw [com_3 hN] at t6
    refine tb_congr t6 (fun c9 i hc hi => ?_)
    rw [com_vP hc, com_vP hc]
    by_cases e : i = nn R 3
    · by_cases h5 : c9 = 5
      · simp [e, h5]
      · by_cases h6 : c9 = 6
        · simp [e, h6]
        · simp [e, h5, h6]
    · simp [e]
  · have o235 := es_row hK hw e2 (i := 235) (by decide) (by omega)
    have h6 := es_row (s := (r.2.1, wQ r.2.2 (z + 235) (nn R 3) a)) hK2 hw2 e6 (i := 235) (by decide) (by omega)
    intro p hp
    rw [com_3 hN] at hp
    have fin : ∀ b, BD s.1 s.2 z ow (comR R kd mi x w) p b → BD r.2.1 d6 z ow2 (comR R kd mi x w) p b := fun b hb => by
      have q1 := bd_ix hb e2 (by decide)
      have q2 : BD r.2.1 (wQ r.2.2 (z + 235) (nn R 3) a) z ow2 (comR R kd mi x w) p b := q1
      exact bd_ix (s := (r.2.1, wQ r.2.2 (z + 235) (nn R 3) a)) (s' := (r.2.1, d6)) q2 e6 (by decide)
    have row : ∀ k, d6.2.2.2 (z + 235) k = if k = nn R 3 then some a else s.2.2.2.2 (z + 235) k := fun k => by
      have q1 : d6.2.2.2 (z + 235) = (wQ r.2.2 (z + 235) (nn R 3) a).2.2.2 (z + 235) := h6.2.2.2
      rw [q1]
      show up2 r.2.2.2.2.2 (z + 235) (nn R 3) (some a) (z + 235) k = _
      rw [up2_s]
      by_cases e : k = nn R 3
      · rw [if_pos e, e, va_up_s]
      · rw [if_neg e, va_up_n e, o235.2.2.2]
    by_cases e : p = nn R 3
    · subst e
      exact ⟨a, by rw [row, if_pos rfl], fin a hD⟩
    · obtain ⟨b, b1, b2⟩ := hP p (by omega)
      exact ⟨b, by rw [row, if_neg e]; exact b1, fin b b2⟩
end BDY
