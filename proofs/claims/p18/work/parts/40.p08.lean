/-! 9e.body.lean.txt -/
/-! new bodies: plough(), pair() of the class -/
section BDY
variable {s s' : AS} {sh : Sh} {d d' d0 : Dt} {z : Nat} {ow ow' : Nat → Nat} {R R' K : Nat → Int32} {u : Bool} {y : YL} {c c' N P P' p S a : Nat} {q q' : BL} {yy : BL × (Nat → Nat) × Nat × Nat} {V : Nat → Nat → Int32} {L : Nat → Nat}
theorem x6_init {lg : Nat} {sp rc : Int32} (h : isO s.1 a 6) : f_X6_init N a lg sp rc s = some ((s.1.1, s.1.2.1, s.1.2.2.1, up2 s.1.2.2.2 a 0 (some lg)), wI (wI s.2 a 1 sp) a 2 rc) := by
  refine rn_val ?_
  unfold f_X6_init f_X6_init_9
  refine rn_t h ?_
  refine rn_eq (v := ((s.1.1, s.1.2.1, s.1.2.2.1, up2 s.1.2.2.2 a 0 (some lg)), s.2)) (by unfold pP; rw [if_pos h]) ?_
  refine rn_eq (v := wI s.2 a 1 sp) (by unfold pI; rw [if_pos h]; rfl) ?_
  exact rn_eq (v := wI (wI s.2 a 1 sp) a 2 rc) (by unfold pI; rw [if_pos h]; rfl) (rn_some rfl)
/-- a new body, made -/
def nb (s : AS) (cl lg : Nat) (sp rc : Int32) : AS := (((nObj s cl).1.1, (nObj s cl).1.2.1, (nObj s cl).1.2.2.1, up2 (nObj s cl).1.2.2.2 s.1.1.2.1 0 (some lg)), wI (wI (nObj s cl).2 s.1.1.2.1 1 sp) s.1.1.2.1 2 rc)
theorem nb_es {cl lg lo hi : Nat} {sp rc : Int32} : ES (IX z ow lo hi) s ow (nb s cl lg sp rc) (va_up ow s.1.1.2.1 0) := by
  refine ⟨rfl, Nat.le_succ _, fun b hb => ?_⟩
  have ne : b ≠ s.1.1.2.1 := by omega
  refine ⟨va_up_n ne, va_up_n ne, ?_, va_up_n ne, fun _ => ⟨?_, va_up_n ne, va_up_n ne, va_up_n ne⟩⟩
  · show up2 (nObj s cl).1.2.2.2 s.1.1.2.1 0 (some lg) b = _
    rw [up2_n ne]
    exact va_up_n ne
  · show (wI (wI (nObj s cl).2 s.1.1.2.1 1 sp) s.1.1.2.1 2 rc).1 b = _
    rw [wI_n ne, wI_n ne]
    exact va_up_n ne
theorem nb_at {cl lg : Nat} {sp rc : Int32} (hz : s.1.1.1 ≤ s.1.1.2.1) : (nb s cl lg sp rc).1.1.1 ≤ s.1.1.2.1 ∧ s.1.1.2.1 < (nb s cl lg sp rc).1.1.2.1 ∧ (nb s cl lg sp rc).1.2.1 s.1.1.2.1 = 10 + cl ∧ (nb s cl lg sp rc).1.2.2.2 s.1.1.2.1 0 = some lg ∧ (nb s cl lg sp rc).2.1 s.1.1.2.1 1 = sp ∧ (nb s cl lg sp rc).2.1 s.1.1.2.1 2 = rc := by
  refine ⟨hz, Nat.lt_succ_self _, va_up_s, ?_, ?_, ?_⟩
  · show up2 _ s.1.1.2.1 0 (some lg) s.1.1.2.1 0 = some lg
    rw [up2_s]
    exact va_up_s
  · show (wI (wI (nObj s cl).2 s.1.1.2.1 1 sp) s.1.1.2.1 2 rc).1 s.1.1.2.1 1 = sp
    rw [wI_s, va_up_n (by decide), wI_s]
    exact va_up_s
  · show (wI (wI (nObj s cl).2 s.1.1.2.1 1 sp) s.1.1.2.1 2 rc).1 s.1.1.2.1 2 = rc
    rw [wI_s]
    exact va_up_s
theorem nb_isO {cl : Nat} (hz : s.1.1.1 ≤ s.1.1.2.1) (hc : cl = 0 ∨ cl = 3 ∨ cl = 6 ∨ cl = 7 ∨ cl = 9) : isO (nObj s cl).1 s.1.1.2.1 6 ∧ isO (nObj s cl).1 s.1.1.2.1 cl := by
  have h1 : (nObj s cl).1.2.1 s.1.1.2.1 = 10 + cl := va_up_s
  exact ⟨⟨hz, Nat.lt_succ_self _, by rw [h1]; omega⟩, ⟨hz, Nat.lt_succ_self _, by rw [h1]; omega⟩⟩
def bcl (k : Nat) : Nat := if k = 1 then 0 else if k = 2 then 7 else if k = 3 then 9 else 6
theorem k_bodyOf {k : Nat} (hk : k ≤ 3) (hK : KS s.1 z) : f_X11_bodyOf N z (nI k) s = some (s.1.1.2.1, nb s (bcl k) (z + 1) (nI (ksp k)) (nI (krc k))) := by
  have hz : s.1.1.1 ≤ s.1.1.2.1 := by have := hK.1; have := hK.2.1; omega
  have kk : ∀ cl, KS (nObj (s.1, s.2) cl).1 z := fun cl => KS.es hK (push_es (X := fun _ => False) (ow := fun _ => 0) (q := 0))
  have gp : ∀ cl, gP (nObj (s.1, s.2) cl).1 z 11 0 = some (z + 1) := fun cl => by
    have := ks_gP (kk cl) 0 11 0 1 rfl (by decide)
    rw [z0] at this
    exact this
  refine rn_val ?_
  unfold f_X11_bodyOf f_X11_bodyOf_31 f_X11_bodyOf_48 f_X11_bodyOf_65 f_X11_bodyOf_82 f_X11_bodyOf_44 f_X11_bodyOf_61 f_X11_bodyOf_78 f_X11_bodyOf_95
  refine rn_t (by rw [← z0 (z := z)]; exact ks_o hK 0 11 rfl) ?_
  rcases (show k = 0 ∨ k = 1 ∨ k = 2 ∨ k = 3 by omega) with rfl | rfl | rfl | rfl
  · refine rn_f (by decide) (rn_f (by decide) (rn_f (by decide) ?_))
    refine rn_eq (gp 6) ?_
    exact rn_eq (x6_init (nb_isO hz (by decide)).1) (rn_some rfl)
  · refine rn_t (by decide) ?_
    refine rn_eq (gp 0) ?_
    refine rn_eq (v := nb s 0 (z + 1) 30 600) ?_ (rn_some rfl)
    refine rn_val ?_
    unfold f_X0_init f_X0_init_7
    refine rn_t (nb_isO hz (by decide)).2 ?_
    exact rn_eq (x6_init (nb_isO hz (by decide)).1) (rn_some rfl)
  · refine rn_f (by decide) (rn_t (by decide) ?_)
    refine rn_eq (gp 7) ?_
    refine rn_eq (v := nb s 7 (z + 1) 45 200) ?_ (rn_some rfl)
    refine rn_val ?_
    unfold f_X7_init f_X7_init_7
    refine rn_t (nb_isO hz (by decide)).2 ?_
    exact rn_eq (x6_init (nb_isO hz (by decide)).1) (rn_some rfl)
  · refine rn_f (by decide) (rn_f (by decide) (rn_t (by decide) ?_))
    refine rn_eq (gp 9) ?_
    refine rn_eq (v := nb s 9 (z + 1) 20 400) ?_ (rn_some rfl)
    refine rn_val ?_
    unfold f_X9_init f_X9_init_7
    refine rn_t (nb_isO hz (by decide)).2 ?_
    exact rn_eq (x6_init (nb_isO hz (by decide)).1) (rn_some rfl)
theorem nb_BO {k : Nat} (hk : k ≤ 3) (hK : KS s.1 z) : BO (nb s (bcl k) (z + 1) (nI (ksp k)) (nI (krc k))).1 (nb s (bcl k) (z + 1) (nI (ksp k)) (nI (krc k))).2 z (va_up ow s.1.1.2.1 0) s.1.1.2.1 k := by
  have hz : s.1.1.1 ≤ s.1.1.2.1 := by have := hK.1; have := hK.2.1; omega
  obtain ⟨h1, h2, h3, h4, h5, h6⟩ := nb_at (s := s) (cl := bcl k) (lg := z + 1) (sp := nI (ksp k)) (rc := nI (krc k)) hz
  refine ⟨h1, h2, ?_, h4, h5, h6, va_up_s, hK.2.1⟩
  rw [h3]
  rcases (show k = 0 ∨ k = 1 ∨ k = 2 ∨ k = 3 by omega) with rfl | rfl | rfl | rfl <;> rfl
/-! the row of bodies -/
theorem tb_wQ {o nc k v : Nat} (h : TB sh d z ow o nc S V L) (ho : o + 1 ≠ 235) : TB sh (wQ d (z + 235) k v) z ow o nc S V L := by
  refine ⟨h.1, fun c hc => ?_⟩
  obtain ⟨a, h1, h2⟩ := h.2 c hc
  refine ⟨a, ?_, h2⟩
  show up2 d.2.2.2 (z + 235) k (some v) (z + (o + 1)) c = some a
  rw [up2_n (by omega)]
  exact h1
theorem bk_wQ {b k v : Nat} (h : BK sh d z ow b R q) (hb : bck b) : BK sh (wQ d (z + 235) k v) z ow b R q := by
  obtain ⟨h0, h1, h2, h3, h4, ⟨a, z1, z2⟩, h6, h7⟩ := h
  have hb2 : b = 3 ∨ b = 40 := hb
  refine ⟨h0, tb_wQ h1 (by omega), tb_wQ h2 (by omega), tb_wQ h3 (by omega), tb_wQ h4 (by omega), ⟨a, ?_, z2⟩, h6, h7⟩
  show up2 d.2.2.2 (z + 235) k (some v) (z + b) 7 = some a
  rw [up2_n (by omega)]
  exact z1
theorem cs_wQ {k v : Nat} {Lp : Nat → Nat} {Lt Lg : Nat} (h : CS sh d z ow Lp Lt Lg) : CS sh (wQ d (z + 235) k v) z ow Lp Lt Lg := by
  obtain ⟨⟨k1, k2, k3⟩, ⟨⟨S, V, k4, k5⟩, k6⟩, ⟨a, a1, a2⟩, b, g, b1, b2⟩ := h
  have e : ∀ i, i ≠ 235 → (wQ d (z + 235) k v).2.2.2 (z + i) = d.2.2.2 (z + i) := fun i hi => up2_n (by omega)
  exact ⟨⟨fun c hc => by rw [e 78 (by decide)]; exact k1 c hc, fun c hc => by rw [e 140 (by decide)]; exact k2 c hc, fun c hc => by rw [e 203 (by decide)]; exact k3 c hc⟩, ⟨⟨S, V, tb_wQ k4 (by decide), k5⟩, k6⟩, ⟨a, by rw [e 201 (by decide)]; exact a1, a2⟩, b, g, by rw [e 0 (by decide)]; exact b1, b2⟩
theorem pb_wQ {k v : Nat} (h : PB sh d z ow R) (hk : nn R 3 ≤ k) : PB sh (wQ d (z + 235) k v) z ow R := fun p hp => by
  obtain ⟨a, h1, h2⟩ := h p hp
  refine ⟨a, ?_, h2⟩
  show up2 d.2.2.2 (z + 235) k (some v) (z + 235) p = some a
  rw [up2_s, va_up_n (by omega)]
  exact h1
theorem cj_wQ {k v : Nat} (h : CJ s z ow K yy c P) (hk : nn K 3 ≤ k) : CJ (s.1, wQ s.2 (z + 235) k v) z ow K yy c P ∧ RFR z s (s.1, wQ s.2 (z + 235) k v) := by
  obtain ⟨hK, hw, b2, b3, b5, g1, g2, g3, b9, b10, b11⟩ := h
  exact ⟨⟨hK, hw, bk_wQ b2 (Or.inr rfl), cs_wQ b3, pb_wQ b5 hk, g1, g2, g3, b9, b10, b11⟩, fun i h1 h2 => ⟨rfl, rfl, rfl, up2_n (by omega)⟩⟩
theorem pot_P : pot (q.1, q.2.1, L, q.2.2.2) + smN q.2.2.1 9 = pot q + smN L 9 := by
  unfold pot
  show smN q.1 9 + smN q.2.1 3 + smN L 9 + smN q.2.2.2.1 4 + q.2.2.2.2 + smN q.2.2.1 9 = _
  omega
theorem com_n {k m x w : Int32} {j : Nat} (h3 : j ≠ 3) (h : j < 9426 + 13 * nn R 3 ∨ 9426 + 13 * nn R 3 + 13 ≤ j) : comR R k m x w j = R j := by
  unfold comR
  rw [va_up_n (by omega), va_up_n (by omega), va_up_n (by omega), va_up_n (by omega), va_up_n (by omega), zr_out (by omega)]
theorem com_3 {k m x w : Int32} (hN : WN R) : nn (comR R k m x w) 3 = nn R 3 + 1 := by
  have n3 := hN.2.2.2.1.2
  unfold nn comR
  rw [va_up_s]
  exact nI_clamp (by omega)
theorem com_at {k m x w : Int32} (t : Nat) (ht : t < 13) : comR R k m x w (9426 + 13 * nn R 3 + t) = if t = 0 then k else if t = 1 then m else if t = 3 then x else if t = 4 then w else 0 := by
  have hz : zrF R (9426 + 13 * nn R 3) 13 (9426 + 13 * nn R 3 + t) = 0 := zr_in (by omega)
  unfold comR
  rw [va_up_n (by omega)]
  by_cases h4 : t = 4
  · subst h4
    rw [va_up_s]
    rfl
  rw [va_up_n (by omega)]
  by_cases h3 : t = 3
  · subst h3
    rw [va_up_s]
    rfl
  rw [va_up_n (by omega)]
  by_cases h1 : t = 1
  · subst h1
    rw [va_up_s]
    rfl
  rw [va_up_n (by omega)]
  by_cases h0 : t = 0
  · subst h0
    rw [va_up_s]
    rfl
  rw [va_up_n (by omega), hz, if_neg h0, if_neg h1, if_neg h3, if_neg h4]
theorem com_wn {k m x w : Int32} (hN : WN R) (h : nn R 3 < 12) : WN (comR R k m x w) := by
  have e : ∀ j, j < 3 ∨ j = 4 → comR R k m x w j = R j := fun j hj => com_n (by omega) (by omega)
  have en : ∀ j, j < 3 ∨ j = 4 → nn (comR R k m x w) j = nn R j := fun j hj => by unfold nn; rw [e j hj]
  unfold WN
  rw [e 0 (by omega), e 1 (by omega), e 2 (by omega), e 4 (by omega), en 0 (by omega), en 1 (by omega), en 2 (by omega), en 4 (by omega), com_3 hN]
  exact ⟨hN.1, hN.2.1, hN.2.2.1, ⟨va_up_s, by omega⟩, hN.2.2.2.2⟩
theorem com_vP {k m x w : Int32} {c i : Nat} (hc : c < 9) : vP (comR R k m x w) c i = if i = nn R 3 then (if c = 5 then m else if c = 6 then k else 0) else vP R c i := by
  by_cases hi : i = nn R 3
  · subst hi
    rw [if_pos rfl]
    have hc9 : c = 0 ∨ c = 1 ∨ c = 2 ∨ c = 3 ∨ c = 4 ∨ c = 5 ∨ c = 6 ∨ c = 7 ∨ c = 8 := by omega
    rcases hc9 with rfl | rfl | rfl | rfl | rfl | rfl | rfl | rfl | rfl
    · exact com_at 6 (by decide)
    · exact com_at 7 (by decide)
    · exact com_at 8 (by decide)
    · exact com_at 9 (by decide)
    · exact com_at 10 (by decide)
    · exact com_at 1 (by decide)
    · show (if comR R k m x w (9426 + 13 * nn R 3 + 2) = 1 then -1 else comR R k m x w (9426 + 13 * nn R 3 + 0)) = k
      rw [com_at 2 (by decide), com_at 0 (by decide)]
      rfl
    · exact com_at 11 (by decide)
    · exact com_at 12 (by decide)
  · rw [if_neg hi]
    have e : ∀ t, t < 13 → comR R k m x w (9426 + 13 * i + t) = R (9426 + 13 * i + t) := fun t ht => com_n (by omega) (by omega)
    unfold vP
    simp only [e 6 (by omega), e 7 (by omega), e 8 (by omega), e 9 (by omega), e 10 (by omega), e 1 (by omega), e 2 (by omega), show comR R k m x w (9426 + 13 * i) = R (9426 + 13 * i) from e 0 (by omega), e 11 (by omega), e 12 (by omega)]
/-- what stands in the row of bodies for PLOUGH p -/
def BD (sh : Sh) (d : Dt) (z : Nat) (ow : Nat → Nat) (R : Nat → Int32) (p a : Nat) : Prop := (nn R (9426 + 13 * p) ≤ 3 ∧ BO sh d z ow a (nn R (9426 + 13 * p))) ∨ (nn R (9426 + 13 * p) = 4 ∧ BP sh d z ow a (nn R (9426 + 13 * nn R (9426 + 13 * p + 3))) (nn R (9426 + 13 * nn R (9426 + 13 * p + 4))))
theorem bd_ix {lo hi : Nat} (h : BD s.1 s.2 z ow R p a) (he : ES (IX z ow lo hi) s ow s' ow') (hx : hi < 1000) : BD s'.1 s'.2 z ow' R p a := by
  rcases h with h | h
  · exact Or.inl ⟨h.1, bo_ix h.2 he hx⟩
  · exact Or.inr ⟨h.1, bp_ix h.2 he hx⟩
theorem k_enlist {kd mi x w : Int32} (hNf : 300 ≤ N) (hR : WDn R) (h3 : nn R 3 < 12) (hK3 : nn K 3 ≤ nn R 3) (hJ : CJ s z ow K yy c (pot q)) (hB : BK s.1 s.2 z ow 3 R q) (hP : ∀ p, p < nn R 3 → ∃ a, s.2.2.2.2 (z + 235) p = some a ∧ BD s.1 s.2 z ow (comR R kd mi x w) p a) (ha : isO s.1 a 6) (hD : BD s.1 s.2 z ow (comR R kd mi x w) (nn R 3) a) : Rn (f_X11_enlist N z a kd mi s) (fun r => r.1 = nI (nn R 3) ∧ ∃ ow' q', CJ r.2 z ow' K yy c (pot q') ∧ RFR z s r.2 ∧ BK r.2.1 r.2.2 z ow' 3 (comR R kd mi x w) q' ∧ PB r.2.1 r.2.2 z ow' (comR R kd mi x w)) := by
  have hK := hJ.1
  have hw := hJ.2.1
  have hN := hR.1
  have ht : tck 20 9 = true := by decide
  unfold f_X11_enlist
  rw [← z0 (z := z)]
  refine rn_t (ks_o hK 0 11 rfl) ?_
  refine r_gP hK 0 11 1 3 rfl (by decide) ?_
  refine r_gP hK 3 1 3 20 rfl (by decide) ?_
  refine rn_bind (tb_add (s := s) (by omega) ht (by omega) hK hw hB.2.2.2.1) (fun r hr => ?_)
  obtain ⟨r1, ow2, L2, e2, t2, l2, p1, p2⟩ := hr
  rw [r1]
  have e2 : ES (IX z ow 20 21) s ow r.2 ow2 := e2.mono (fun b _ hb => tx_ix ht hw hb)
  have hK2 : KS r.2.1 z := KS.es hK e2
  have hw2 : OWS ow2 z := OWS.es hw hK e2
  have hL2 : ∀ c9, c9 < 9 → L2 c9 ≤ 24 := fun c9 hc9 => by
    have := l2 c9 hc9
    have := hB.2.2.2.2.2.2.2.2.2.1 c9 hc9
    omega
  have bk1 : BK r.2.1 r.2.2 z ow2 3 (comR R 0 0 0 0) (q.1, q.2.1, L2, q.2.2.2) := by
    refine bk_P hR (Or.inl rfl) hK hw hB e2 ?_ hL2 (fun k h1 h2 => com_n h1 (by omega))
    rw [com_3 hN]
    refine tb_congr t2 (fun c9 i hc hi => ?_)
    rw [com_vP hc]
    by_cases e : i = nn R 3
    · rw [if_pos e, if_pos e]
      by_cases h5 : c9 = 5
      · rw [if_pos h5]
      · rw [if_neg h5]
        by_cases h6 : c9 = 6
        · rw [if_pos h6]
        · rw [if_neg h6]
    · rw [if_neg e, if_neg e]
  have pp := pot_P (q := q) (L := L2)
  have j1 := cj_es (c' := c) (P' := pot (q.1, q.2.1, L2, q.2.2.2)) hJ e2 (by omega) (by omega) (by omega)
  unfold f_X11_enlist_10
  refine r_gP hK2 0 11 6 235 rfl (by decide) ?_
  have ha2 : isO r.2.1 a 6 := by
    have q9 := e2.2.2 a ha.2.1
    have q1 := e2.1
    have q2 := e2.2.1
    exact ⟨by rw [q1]; exact ha.1, Nat.lt_of_lt_of_le ha.2.1 q2, by rw [q9.1]; exact ha.2.2⟩
  refine rn_eq (v := wQ r.2.2 (z + 235) (nn R 3) a) ?_ ?_
  · obtain ⟨i1, i2⟩ := in_of (x := nI (nn R 3)) (n := 12) rfl h3 (by decide)
    have k235 := ks_a hK2 235 6 12 rfl
    unfold sP
    rw [k235.2, if_pos ⟨k235.1, i1, ha2⟩, i2]
    rfl
  have j2 := cj_wQ (k := nn R 3) (v := a) j1.1 hK3
  have bk2 := bk_wQ (k := nn R 3) (v := a) bk1 (Or.inl rfl)
  have hR1 : WDn (comR R 0 0 0 0) := wdn_cg hR (com_wn hN h3) (fun j h1 h2 => com_n h1 (by omega))
  refine r_gP hK2 0 11 1 3 rfl (by decide) ?_
  refine r_gP hK2 3 1 3 20 rfl (by decide) ?_
  refine rn_bind (tb_put (o := 20) (nc := 9) (c := 6) hK2 hw2 ht bk2.2.2.2.1 rfl (by rw [com_3 hN]; exact Nat.lt_succ_self _) rfl (by decide)) (fun d5 hd5 => ?_)
  refine r_gP hK2 0 11 1 3 rfl (by decide) ?_
  refine r_gP hK2 3 1 3 20 rfl (by decide) ?_
  refine rn_bind (tb_put (o := 20) (nc := 9) (c := 5) hK2 hw2 ht hd5.1 rfl (by rw [com_3 hN]; exact Nat.lt_succ_self _) rfl (by decide)) (fun d6 hd6 => rn_some ?_)
  have f6 : FD (IX z ow2 20 21) (wQ r.2.2 (z + 235) (nn R 3) a) d6 := (hd5.2.tr hd6.2).mono (fun b hb => tx_ix ht hw2 hb)
  have e6 : ES (IX z ow2 20 21) (r.2.1, wQ r.2.2 (z + 235) (nn R 3) a) ow2 (r.2.1, d6) ow2 := f6.es
  have j3 := cj_es (c' := c) (P' := pot (q.1, q.2.1, L2, q.2.2.2)) j2.1 e6 (by omega) (Nat.le_refl _) (Nat.le_refl _)
  refine ⟨rfl, ow2, (q.1, q.2.1, L2, q.2.2.2), j3.1, (j1.2.tr j2.2).tr j3.2, ?_, ?_⟩
  · refine bk_P (s := (r.2.1, wQ r.2.2 (z + 235) (nn R 3) a)) (s' := (r.2.1, d6)) (q := (q.1, q.2.1, L2, q.2.2.2)) (L' := L2) hR1 (Or.inl rfl) hK2 hw2 bk2 e6 ?_ hL2 (fun k h1 h2 => by rw [com_n h1 (by omega), com_n h1 (by omega)])
    rw [com_3 hN]
    have t6 := hd6.1
    rw [com_3 hN] at t6
    refine tb_congr t6 (fun c9 i hc hi => ?_)
    rw [com_vP hc, com_vP hc]
    by_cases e : i = nn R 3
    · by_cases h5 : c9 = 5
      · simp [e, h5]
      · by_cases h6 : c9 = 6
        · simp [e, h6]
        · simp [e, h5, h6]
    · simp [e]
  · have o235 := es_row hK hw e2 (i := 235) (by decide) (by omega)
    have h6 := es_row (s := (r.2.1, wQ r.2.2 (z + 235) (nn R 3) a)) hK2 hw2 e6 (i := 235) (by decide) (by omega)
    intro p hp
    rw [com_3 hN] at hp
    have fin : ∀ b, BD s.1 s.2 z ow (comR R kd mi x w) p b → BD r.2.1 d6 z ow2 (comR R kd mi x w) p b := fun b hb => by
      have q1 := bd_ix hb e2 (by decide)
      have q2 : BD r.2.1 (wQ r.2.2 (z + 235) (nn R 3) a) z ow2 (comR R kd mi x w) p b := q1
      exact bd_ix (s := (r.2.1, wQ r.2.2 (z + 235) (nn R 3) a)) (s' := (r.2.1, d6)) q2 e6 (by decide)
    have row : ∀ k, d6.2.2.2 (z + 235) k = if k = nn R 3 then some a else s.2.2.2.2 (z + 235) k := fun k => by
      have q1 : d6.2.2.2 (z + 235) = (wQ r.2.2 (z + 235) (nn R 3) a).2.2.2 (z + 235) := h6.2.2.2
      rw [q1]
      show up2 r.2.2.2.2.2 (z + 235) (nn R 3) (some a) (z + 235) k = _
      rw [up2_s]
      by_cases e : k = nn R 3
      · rw [if_pos e, e, va_up_s]
      · rw [if_neg e, va_up_n e, o235.2.2.2]
    by_cases e : p = nn R 3
    · subst e
      exact ⟨a, by rw [row, if_pos rfl], fin a hD⟩
    · obtain ⟨b, b1, b2⟩ := hP p (by omega)
      exact ⟨b, by rw [row, if_neg e]; exact b1, fin b b2⟩
end BDY
/-! 9f.pair.lean.txt -/
/-! plough(), pair() of the class -/
section PAI
variable {s s' : AS} {sh : Sh} {d d' d0 : Dt} {z : Nat} {ow ow' : Nat → Nat} {R R' K : Nat → Int32} {u : Bool} {y : YL} {c c' N p : Nat} {q q' : BL}
theorem ci_mono (h : CI s z ow R K u y c) (hc : c ≤ c') : CI s z ow R K u y c' := by
  obtain ⟨hK, hw, b1, b2, b3, b4, b5, b6, b7, b8, b9, b10, b11⟩ := h
  exact ⟨hK, hw, b1, b2, b3, b4, b5, b6, b7, b8, b9, by omega, by have := b11.1; omega, b11.2⟩
theorem ko_mono {o : Int32 × Option (Nat → Int32)} {r : Int32 × AS} (h : KO z R K u c o s r) (hc : c ≤ c') : KO z R K u c' o s r := by
  obtain ⟨h1, h2, ow1, y1, h3⟩ := h
  exact ⟨h1, h2, ow1, y1, ci_mono h3 hc⟩
theorem pb_com {kd mi x w : Int32} (hk : ∀ p, p < nn R 3 → nn R (9426 + 13 * p) = 4 → nn R (9426 + 13 * p + 3) < nn R 3 ∧ nn R (9426 + 13 * p + 4) < nn R 3) (h : PB sh d z ow R) : ∀ p, p < nn R 3 → ∃ a, d.2.2.2 (z + 235) p = some a ∧ BD sh d z ow (comR R kd mi x w) p a := fun p hp => by
  obtain ⟨a, h1, h2⟩ := h p hp
  have e : ∀ p t, p < nn R 3 → t < 13 → nn (comR R kd mi x w) (9426 + 13 * p + t) = nn R (9426 + 13 * p + t) := fun p t h1 h2 => by unfold nn; rw [com_n (by omega) (by omega)]
  have e0 : ∀ p, p < nn R 3 → nn (comR R kd mi x w) (9426 + 13 * p) = nn R (9426 + 13 * p) := fun p h1 => e p 0 h1 (by decide)
  refine ⟨a, h1, ?_⟩
  unfold BD
  rw [e0 p hp]
  rcases h2 with h2 | h2
  · exact Or.inl h2
  · have q := hk p hp h2.1
    rw [e p 3 hp (by decide), e p 4 hp (by decide), e0 _ q.1, e0 _ q.2]
    exact Or.inr h2
theorem wp_two (hR : WF R) : ∀ p, p < nn R 3 → nn R (9426 + 13 * p) = 4 → nn R (9426 + 13 * p + 3) < nn R 3 ∧ nn R (9426 + 13 * p + 4) < nn R 3 := fun p hp h4 => by
  obtain ⟨a, b, h1, h2, h3, h4, -⟩ := (hR.2.2.2.2.1 p hp).2.1 h4
  have n3 := hR.1.2.2.2.1.2
  unfold nn at h1 h2 ⊢
  rw [h3, h4, nI_clamp (show a < 2 ^ 31 by unfold nn at n3; omega), nI_clamp (show b < 2 ^ 31 by unfold nn at n3; omega)]
  exact ⟨h1, h2⟩
theorem k_plough {k m : Int32} (hNf : 300 ≤ N) (h : CI s z ow R K u y c) (hR : WF R) (hKF : WF K) : Rn (f_X11_plough N z k m s) (KO z R K u (c + 1) (sp_plough R k m) s) := by
  have hK := h.1
  have hN := hR.1
  have n3 := hN.2.2.2.1.2
  have hB : BK s.1 s.2 z ow 3 R y.1 := h.2.2.1
  have bad : (k < 0 ∨ 3 < k) ∨ (m < 0 ∨ 10000 < m) → Rn (f_X11_plough_20 N z s) (KO z R K u (c + 1) (sp_plough R k m) s) := fun hb => by
    rw [show sp_plough R k m = _ from if_pos hb]
    unfold f_X11_plough_20
    refine rn_bind (k_refuse hK) (fun r hr => rn_some ?_)
    exact ko_mono (ko_lg h hr rfl) (Nat.le_succ c)
  unfold f_X11_plough
  rw [← z0 (z := z)]
  refine rn_t (ks_o hK 0 11 rfl) ?_
  rw [z0 (z := z)]
  refine rn_ite (fun h1 => bad (Or.inl (Or.inl h1))) (fun h1 => ?_)
  refine rn_ite (fun h2 => bad (Or.inl (Or.inr h2))) (fun h2 => ?_)
  refine rn_ite (fun h3 => bad (Or.inr (Or.inl h3))) (fun h3 => ?_)
  refine rn_ite (fun h4 => ?_) (fun h4 => bad (Or.inr (Or.inr (Int32.not_le.mp h4))))
  rw [show sp_plough R k m = _ from if_neg (fun q => q.elim (fun q => q.elim h1 h2) (fun q => q.elim h3 (fun q => Int32.not_le.mpr q h4)))]
  refine r_now hK 3 20 (by decide) ?_
  refine r_gI hK (i := 20) (c := 8) rfl ?_
  rw [hB.2.2.2.1.1]
  by_cases h6 : nn R 3 = 12
  · rw [if_pos h6]
    refine rn_f (by rw [h6]; decide) ?_
    refine rn_bind (k_refuse hK) (fun r hr => rn_some ?_)
    exact ko_mono (ko_lg h hr rfl) (Nat.le_succ c)
  rw [if_neg h6]
  refine rn_t (nI_lt (b := 12) (by omega) (by decide)) ?_
  obtain ⟨k, hk, rfl, -⟩ := st_of (x := k) (n := 4) (by decide) (fun q => q.elim h1 (fun q => h2 (Int32.not_le.mp (fun r => absurd (Int32.le_trans q r) (by decide)))))
  refine rn_bind (ci_change (by omega) h hR.1 hR.2.1 hKF.1) (fun s1 hs => ?_)
  obtain ⟨f1, g1, g2, g3, ow1, y1, -, c1⟩ := hs
  have hK1 := c1.1
  have hw1 := c1.2.1
  unfold f_X11_plough_53 f_X11_plough_60 f_X11_plough_65
  refine rn_eq (k_bodyOf (s := s1) (by omega) hK1) ?_
  have e1 : ES (IX z ow1 236 236) s1 ow1 (nb s1 (bcl k) (z + 1) (nI (ksp k)) (nI (krc k))) (va_up ow1 s1.1.1.2.1 0) := nb_es
  have hl : (lay (bcl k)).length = 3 := by
    rcases (show k = 0 ∨ k = 1 ∨ k = 2 ∨ k = 3 by omega) with rfl | rfl | rfl | rfl <;> rfl
  have hw5 : (nb s1 (bcl k) (z + 1) (nI (ksp k)) (nI (krc k))).1.1.2.2 = s1.1.1.2.2 + (lay (bcl k)).length := rfl
  have hn5 : (nb s1 (bcl k) (z + 1) (nI (ksp k)) (nI (krc k))).1.1.2.1 = s1.1.1.2.1 + 1 := rfl
  have j1 := cj_es (c' := c + 1) (P' := pot y1.1) (cj_of c1 g1 g2 g3) e1 (by omega) (by omega) (by omega)
  have hbo := nb_BO (s := s1) (ow := ow1) (k := k) (by omega) hK1
  have hB2 := bk_ix c1.2.2.1 (Or.inl rfl) hK1 hw1 e1 (by omega)
  have hP2 := pb_ix c1.2.2.2.2.2.1 hK1 hw1 e1 (by omega) (by omega)
  have hkk : nn (comR R (nI k) m (-1) (-1)) (9426 + 13 * nn R 3) = k := by
    have := com_at (R := R) (k := nI k) (m := m) (x := -1) (w := -1) 0 (by decide)
    unfold nn at this ⊢
    rw [show 9426 + 13 * (R 3).toNatClampNeg = 9426 + 13 * (R 3).toNatClampNeg + 0 from rfl, this, if_pos rfl]
    exact nI_clamp (by omega)
  refine rn_bind (k_enlist (s := nb s1 (bcl k) (z + 1) (nI (ksp k)) (nI (krc k))) (kd := nI k) (mi := m) (x := -1) (w := -1) hNf (wdn_of hR) (by omega) (Nat.le_refl _) j1.1 hB2 (pb_com (wp_two hR) hP2) ⟨hbo.1, hbo.2.1, by
    rw [hbo.2.2.1]
    rcases (show k = 0 ∨ k = 1 ∨ k = 2 ∨ k = 3 by omega) with rfl | rfl | rfl | rfl <;> simp [kcl]⟩ (Or.inl ⟨by rw [hkk]; omega, by rw [hkk]; exact hbo⟩)) (fun r hr => ?_)
  obtain ⟨r1, ow3, q3, j3, f3, b3, p3⟩ := hr
  rw [r1]
  have c3 := cj_ci j3 b3 p3
  refine rn_bind (k_answer c3.1) (fun r9 hr9 => rn_some ?_)
  have q4 := ci_lg c3 hr9.2
  exact ⟨hr9.1, ((f1.tr j1.2).tr f3).tr q4.2, ow3, _, q4.1⟩
theorem k_unp (hR : WF R) (hK : KS sh z) {L : Nat → Nat} (hT : TB sh d z ow 20 9 (nn R 3) (vP R) L) (hB : PB sh d z ow R) (hp : p < nn R 3) : f_X11_whyUnpaired N sh z (nI p) d = some (unf R p) := by
  have w := (hR.2.2.2.2.1 p hp).1
  obtain ⟨a, a1, a2, a3, -⟩ := k_body hK hB hp hR.1
  refine rn_val ?_
  unfold f_X11_whyUnpaired f_X11_whyUnpaired_32 unf
  rw [← z0 (z := z)]
  refine rn_t (ks_o hK 0 11 rfl) ?_
  refine r_gP hK 0 11 1 3 rfl (by decide) ?_
  refine rn_eq (k_isOut (Or.inl rfl) hR hK hT hp) ?_
  by_cases h1 : R (9426 + 13 * p + 2) = 1
  · rw [if_pos h1, if_pos h1]
    exact rn_f (by decide) (rn_some rfl)
  rw [if_neg h1, if_neg h1]
  refine rn_t rfl ?_
  refine r_gP hK 0 11 6 235 rfl (by decide) ?_
  refine rn_eq a1 ?_
  refine rn_eq a3 ?_
  by_cases h4 : nn R (9426 + 13 * p) = 4
  · rw [if_pos h4, if_pos (show R (9426 + 13 * p) = 4 by rw [w.1, h4]; rfl)]
    exact rn_f (by decide) (rn_some rfl)
  · rw [if_neg h4, if_neg (show ¬ R (9426 + 13 * p) = 4 from fun e => h4 (nI_inj (b := 4) (w.1.symm.trans e) (by omega) (by decide)))]
    exact rn_t rfl (rn_some rfl)
/-- a PAIR, made -/
def nb3 (s : AS) (lg a1 a2 : Nat) (sp rc : Int32) : AS := (((nb s 3 lg sp rc).1.1, (nb s 3 lg sp rc).1.2.1, (nb s 3 lg sp rc).1.2.2.1, up2 (up2 (nb s 3 lg sp rc).1.2.2.2 s.1.1.2.1 3 (some a1)) s.1.1.2.1 4 (some a2)), (nb s 3 lg sp rc).2)
theorem nb3_es {lg a1 a2 lo hi : Nat} {sp rc : Int32} : ES (IX z ow lo hi) s ow (nb3 s lg a1 a2 sp rc) (va_up ow s.1.1.2.1 0) := by
  have h := nb_es (z := z) (s := s) (ow := ow) (cl := 3) (lg := lg) (lo := lo) (hi := hi) (sp := sp) (rc := rc)
  refine ⟨h.1, h.2.1, fun b hb => ?_⟩
  have ne : b ≠ s.1.1.2.1 := by omega
  have q := h.2.2 b hb
  refine ⟨q.1, q.2.1, ?_, q.2.2.2.1, q.2.2.2.2⟩
  show up2 (up2 (nb s 3 lg sp rc).1.2.2.2 s.1.1.2.1 3 (some a1)) s.1.1.2.1 4 (some a2) b = _
  rw [up2_n ne, up2_n ne]
  exact q.2.2.1
theorem k_init3 {a1 a2 k1 k2 : Nat} (hk1 : k1 ≤ 3) (hk2 : k2 ≤ 3) (hK : KS s.1 z) (h1 : BO s.1 s.2 z ow a1 k1) (h2 : BO s.1 s.2 z ow a2 k2) : f_X3_init N s.1.1.2.1 (z + 1) a1 a2 (nObj s 3) = some (nb3 s (z + 1) a1 a2 (nI (min (ksp k1) (ksp k2))) (nI (krc k1 + krc k2))) ∧ BP (nb3 s (z + 1) a1 a2 (nI (min (ksp k1) (ksp k2))) (nI (krc k1 + krc k2))).1 (nb3 s (z + 1) a1 a2 (nI (min (ksp k1) (ksp k2))) (nI (krc k1 + krc k2))).2 z (va_up ow s.1.1.2.1 0) s.1.1.2.1 k1 k2 := by
  have hz : s.1.1.1 ≤ s.1.1.2.1 := by have := hK.1; have := hK.2.1; omega
  have ni := nb_isO (s := s) (cl := 3) hz (by decide)
  have ps : ES (IX z ow 236 236) s ow (nObj s 3) (va_up ow s.1.1.2.1 0) := push_es
  have b1 := bo_ix h1 ps (by decide)
  have b2 := bo_ix h2 ps (by decide)
  have iso : ∀ a k, k ≤ 3 → BO (nObj s 3).1 (nObj s 3).2 z (va_up ow s.1.1.2.1 0) a k → isO (nObj s 3).1 a 6 := fun a k hk hb => by
    refine ⟨hb.1, hb.2.1, ?_⟩
    rw [hb.2.2.1]
    rcases (show k = 0 ∨ k = 1 ∨ k = 2 ∨ k = 3 by omega) with rfl | rfl | rfl | rfl <;> simp [kcl]
  have i1 := iso a1 k1 hk1 b1
  have i2 := iso a2 k2 hk2 b2
  have hsp : ∀ k, ksp k < 2 ^ 31 := fun k => by unfold ksp; (repeat' split) <;> decide
  refine ⟨?_, ?_⟩
  · refine rn_val ?_
    unfold f_X3_init f_X3_init_25 f_X3_init_30 f_X3_init_35
    refine rn_t ni.2 ?_
    refine rn_eq (v := nI (ksp k1)) (by unfold gI; rw [if_pos i1, b1.2.2.2.2.1]) ?_
    refine rn_eq (v := nI (ksp k2)) (by unfold gI; rw [if_pos i2, b2.2.2.2.2.1]) ?_
    refine rn_eq (v := nI (krc k1)) (by unfold gI; rw [if_pos i1, b1.2.2.2.2.2.1]) ?_
    refine rn_eq (v := nI (krc k2)) (by unfold gI; rw [if_pos i2, b2.2.2.2.2.2.1]) ?_
    rw [o_min_nI (hsp k1) (hsp k2), nI_add]
    refine rn_eq (v := nb s 3 (z + 1) (nI (min (ksp k1) (ksp k2))) (nI (krc k1 + krc k2))) (x6_init ni.1) ?_
    refine rn_eq (v := ((((nb s 3 (z + 1) (nI (min (ksp k1) (ksp k2))) (nI (krc k1 + krc k2))).1.1, (nb s 3 (z + 1) (nI (min (ksp k1) (ksp k2))) (nI (krc k1 + krc k2))).1.2.1, (nb s 3 (z + 1) (nI (min (ksp k1) (ksp k2))) (nI (krc k1 + krc k2))).1.2.2.1, up2 (nb s 3 (z + 1) (nI (min (ksp k1) (ksp k2))) (nI (krc k1 + krc k2))).1.2.2.2 s.1.1.2.1 3 (some a1)), (nb s 3 (z + 1) (nI (min (ksp k1) (ksp k2))) (nI (krc k1 + krc k2))).2) : AS)) (if_pos ni.2) ?_
    exact rn_eq (v := nb3 s (z + 1) a1 a2 (nI (min (ksp k1) (ksp k2))) (nI (krc k1 + krc k2))) (if_pos ni.2) (rn_some rfl)
  · obtain ⟨w1, w2, w3, w4, w5, w6⟩ := nb_at (s := s) (cl := 3) (lg := z + 1) (sp := nI (min (ksp k1) (ksp k2))) (rc := nI (krc k1 + krc k2)) hz
    have e3 : ES (IX z ow 236 236) s ow (nb3 s (z + 1) a1 a2 (nI (min (ksp k1) (ksp k2))) (nI (krc k1 + krc k2))) (va_up ow s.1.1.2.1 0) := nb3_es
    refine ⟨w1, w2, w3, ?_, w5, w6, va_up_s, hK.2.1, a1, a2, ?_, ?_, bo_ix h1 e3 (by decide), bo_ix h2 e3 (by decide)⟩
    · show up2 (up2 (nb s 3 (z + 1) _ _).1.2.2.2 s.1.1.2.1 3 (some a1)) s.1.1.2.1 4 (some a2) s.1.1.2.1 0 = some (z + 1)
      rw [up2_s, va_up_n (by decide), up2_s, va_up_n (by decide)]
      exact w4
    · show up2 (up2 (nb s 3 (z + 1) _ _).1.2.2.2 s.1.1.2.1 3 (some a1)) s.1.1.2.1 4 (some a2) s.1.1.2.1 3 = some a1
      rw [up2_s, va_up_n (by decide), up2_s, va_up_s]
    · show up2 (up2 (nb s 3 (z + 1) _ _).1.2.2.2 s.1.1.2.1 3 (some a1)) s.1.1.2.1 4 (some a2) s.1.1.2.1 4 = some a2
      rw [up2_s, va_up_s]
theorem unf_0 (hR : WF R) (hp : p < nn R 3) (h : unf R p = 0) : nn R (9426 + 13 * p) ≤ 3 := by
  have w := (hR.2.2.2.2.1 p hp).1
  unfold unf at h
  by_cases h1 : R (9426 + 13 * p + 2) = 1
  · rw [if_pos h1] at h
    exact absurd h (by decide)
  rw [if_neg h1] at h
  by_cases h4 : R (9426 + 13 * p) = 4
  · rw [if_pos h4] at h
    exact absurd h (by decide)
  have : nn R (9426 + 13 * p) ≠ 4 := fun e => h4 (by rw [w.1, e]; rfl)
  omega
theorem k_pair {x x2 m : Int32} (hNf : 300 ≤ N) (h : CI s z ow R K u y c) (hR : WF R) (hKF : WF K) : Rn (f_X11_pair N z x x2 m s) (KO z R K u (c + 1) (sp_pair R x x2 m) s) := by
  have hK := h.1
  have hN := hR.1
  have n3 := hN.2.2.2.1.2
  have hB : BK s.1 s.2 z ow 3 R y.1 := h.2.2.1
  have bad : ((x < 0 ∨ nI (nn R 3) ≤ x) ∨ (x2 < 0 ∨ nI (nn R 3) ≤ x2)) ∨ x = x2 ∨ (m < 0 ∨ 10000 < m) → Rn (f_X11_pair_44 N z s) (KO z R K u (c + 1) (sp_pair R x x2 m) s) := fun hb => by
    rw [show sp_pair R x x2 m = _ from if_pos hb]
    unfold f_X11_pair_44
    refine rn_bind (k_refuse hK) (fun r hr => rn_some ?_)
    exact ko_mono (ko_lg h hr rfl) (Nat.le_succ c)
  unfold f_X11_pair
  rw [← z0 (z := z)]
  refine rn_t (ks_o hK 0 11 rfl) ?_
  rw [z0 (z := z)]
  refine r_now hK 3 20 (by decide) ?_
  refine rn_eq (tb_has (o := 20) (nc := 9) hK (by decide) hB.2.2.2.1) ?_
  refine rn_ite (fun h1 => bad (Or.inl (Or.inl (ite01.mp h1)))) (fun h1 => ?_)
  refine r_now hK 3 20 (by decide) ?_
  refine rn_eq (tb_has (o := 20) (nc := 9) hK (by decide) hB.2.2.2.1) ?_
  refine rn_ite (fun h2 => bad (Or.inl (Or.inr (ite01.mp h2)))) (fun h2 => ?_)
  refine rn_ite (fun h3 => bad (Or.inr (Or.inl h3))) (fun h3 => ?_)
  refine rn_ite (fun h4 => bad (Or.inr (Or.inr (Or.inl h4)))) (fun h4 => ?_)
  refine rn_ite (fun h5 => ?_) (fun h5 => bad (Or.inr (Or.inr (Or.inr (Int32.not_le.mp h5)))))
  have h1 : ¬ (x < 0 ∨ nI (nn R 3) ≤ x) := fun q => h1 (ite01.mpr q)
  have h2 : ¬ (x2 < 0 ∨ nI (nn R 3) ≤ x2) := fun q => h2 (ite01.mpr q)
  rw [show sp_pair R x x2 m = _ from if_neg (fun q => q.elim (fun q => q.elim h1 h2) (fun q => q.elim h3 (fun q => q.elim h4 (fun q => Int32.not_le.mpr q h5))))]
  obtain ⟨p, hp, rfl, e1⟩ := st_of (by omega) h1
  obtain ⟨q, hq, rfl, e2⟩ := st_of (by omega) h2
  have hpq : p ≠ q := fun e => h3 (by rw [e])
  rw [e1, e2]
  refine r_now hK 3 20 (by decide) ?_
  refine r_gI hK (i := 20) (c := 8) rfl ?_
  rw [hB.2.2.2.1.1]
  by_cases h6 : nn R 3 = 12
  · rw [if_pos h6]
    refine rn_f (by rw [h6]; decide) ?_
    refine rn_bind (k_refuse hK) (fun r hr => rn_some ?_)
    exact ko_mono (ko_lg h hr rfl) (Nat.le_succ c)
  rw [if_neg h6]
  refine rn_t (nI_lt (b := 12) (by omega) (by decide)) ?_
  refine rn_eq (k_unp hR hK hB.2.2.2.1 h.2.2.2.2.2.1 hp) ?_
  by_cases hu : unf R p = 0
  · refine rn_f (fun q => q hu) ?_
    refine rn_eq (k_unp hR hK hB.2.2.2.1 h.2.2.2.2.2.1 hq) ?_
    unfold f_X11_pair_92
    by_cases hv : unf R q = 0
    · refine rn_t hv ?_
      rw [if_pos hu, if_pos hv]
      have k1 := unf_0 hR hp hu
      have k2 := unf_0 hR hq hv
      refine rn_bind (ci_change (by omega) h hR.1 hR.2.1 hKF.1) (fun s1 hs => ?_)
      obtain ⟨f1, g1, g2, g3, ow1, y1, -, c1⟩ := hs
      have hK1 := c1.1
      have hw1 := c1.2.1
      unfold f_X11_pair_108
      rw [← z0 (z := z)]
      refine r_gP hK1 0 11 1 3 rfl (by decide) ?_
      refine rn_bind (k_sendOut (by omega) (wdn_of hR) hK1 hw1 c1.2.2.1 hp) (fun d1 hd1 => ?_)
      refine r_gP hK1 0 11 1 3 rfl (by decide) ?_
      have hR1 : WDn (lvR R p) := wdn_cg (wdn_of hR) (lvR_wn hN) (fun j _ hj => lvR_n (by omega))
      refine rn_bind (k_sendOut (by omega) hR1 hK1 hw1 hd1.2 (by rw [lvR_3]; exact hq)) (fun d2 hd2 => ?_)
      have hR2 : WDn (lvR (lvR R p) q) := wdn_cg hR1 (lvR_wn hR1.1) (fun j _ hj => lvR_n (by omega))
      have n2 : nn (lvR (lvR R p) q) 3 = nn R 3 := by rw [lvR_3, lvR_3]
      have f12 : FD (IX z ow1 20 21) s1.2 d2 := hd1.1.tr hd2.1
      have e12 : ES (IX z ow1 20 21) s1 ow1 (s1.1, d2) ow1 := FD.es (sh := s1.1) (d := s1.2) f12
      have j1 := cj_es (c' := c) (P' := pot y1.1) (cj_of c1 g1 g2 g3) e12 (by omega) (Nat.le_refl _) (Nat.le_refl _)
      have hP1 : PB s1.1 d2 z ow1 (lvR (lvR R p) q) := lvR_pb (lvR_pb (pb_ix c1.2.2.2.2.2.1 hK1 hw1 e12 (by omega) (by omega)))
      have kk : ∀ p', nn (lvR (lvR R p) q) (9426 + 13 * p') = nn R (9426 + 13 * p') := fun p' => by
        have l0 : ∀ R p, lvR R p (9426 + 13 * p') = R (9426 + 13 * p') := fun R p => by
          by_cases e : p' = p
          · subst e
            exact lvR_k (by omega) (by omega)
          · exact lvR_n (by omega)
        unfold nn
        rw [l0, l0]
      have row : ∀ p', p' < nn R 3 → nn R (9426 + 13 * p') ≤ 3 → ∃ a, d2.2.2.2 (z + 235) p' = some a ∧ BO s1.1 d2 z ow1 a (nn R (9426 + 13 * p')) := fun p' hp' h' => by
        obtain ⟨a, a1, a2⟩ := hP1 p' (by rw [n2]; exact hp')
        rw [kk] at a2
        rcases a2 with a2 | a2
        · exact ⟨a, a1, a2.2⟩
        · omega
      obtain ⟨a1, ra1, ba1⟩ := row p hp k1
      obtain ⟨a2, ra2, ba2⟩ := row q hq k2
      unfold f_X11_pair_129 f_X11_pair_149 f_X11_pair_154
      have ps : ES (IX z ow1 236 236) (s1.1, d2) ow1 (nObj (s1.1, d2) 3) (va_up ow1 s1.1.1.2.1 0) := push_es
      have hKn := KS.es (s := (s1.1, d2)) hK1 ps
      have r235 := es_row (s := (s1.1, d2)) hK1 hw1 ps (i := 235) (by decide) (by omega)
      refine r_gP hKn 0 11 0 1 rfl (by decide) ?_
      refine r_gP hKn 0 11 6 235 rfl (by decide) ?_
      refine rn_eq (q_aQ (ks_a hKn 235 6 12 rfl) p a1 rfl (by omega) (by decide) (by rw [r235.2.2.2]; exact ra1)) ?_
      refine r_gP hKn 0 11 6 235 rfl (by decide) ?_
      refine rn_eq (q_aQ (ks_a hKn 235 6 12 rfl) q a2 rfl (by omega) (by decide) (by rw [r235.2.2.2]; exact ra2)) ?_
      obtain ⟨i1, i2⟩ := k_init3 (N := N) (s := (s1.1, d2)) k1 k2 hK1 ba1 ba2
      refine rn_eq i1 ?_
      generalize hs4 : nb3 (s1.1, d2) (z + 1) a1 a2 (nI (min (ksp (nn R (9426 + 13 * p))) (ksp (nn R (9426 + 13 * q))))) (nI (krc (nn R (9426 + 13 * p)) + krc (nn R (9426 + 13 * q)))) = s4 at i2 ⊢
      have e4 : ES (IX z ow1 236 236) (s1.1, d2) ow1 s4 (va_up ow1 s1.1.1.2.1 0) := by rw [← hs4]; exact nb3_es
      have w4 : s4.1.1.2.2 = s1.1.1.2.2 + 5 := by rw [← hs4]; rfl
      have n4 : s4.1.1.2.1 = s1.1.1.2.1 + 1 := by rw [← hs4]; rfl
      have w4' : s4.1.1.2.2 = ((s1.1, d2) : AS).1.1.2.2 + 5 := w4
      have n4' : s4.1.1.2.1 = ((s1.1, d2) : AS).1.1.2.1 + 1 := n4
      have j2 := cj_es (c' := c + 1) (P' := pot y1.1) j1.1 e4 (by omega) (by omega) (by omega)
      have hB4 := bk_ix (s := (s1.1, d2)) hd2.2 (Or.inl rfl) hK1 hw1 e4 (by omega)
      have hP4 := pb_ix (s := (s1.1, d2)) hP1 hK1 hw1 e4 (by omega) (by omega)
      have ca : ∀ t, t < 13 → comR (lvR (lvR R p) q) 4 m (nI p) (nI q) (9426 + 13 * nn (lvR (lvR R p) q) 3 + t) = _ := fun t ht => com_at t ht
      have m0 : nn (comR (lvR (lvR R p) q) 4 m (nI p) (nI q)) (9426 + 13 * nn (lvR (lvR R p) q) 3) = 4 := by
        have := ca 0 (by decide)
        unfold nn at this ⊢
        exact (congrArg Int32.toNatClampNeg this).trans (show (4 : Int32).toNatClampNeg = 4 by decide)
      have m3 : nn (comR (lvR (lvR R p) q) 4 m (nI p) (nI q)) (9426 + 13 * nn (lvR (lvR R p) q) 3 + 3) = p := by
        have := ca 3 (by decide)
        unfold nn at this ⊢
        exact (congrArg Int32.toNatClampNeg this).trans (nI_clamp (by omega))
      have m4 : nn (comR (lvR (lvR R p) q) 4 m (nI p) (nI q)) (9426 + 13 * nn (lvR (lvR R p) q) 3 + 4) = q := by
        have := ca 4 (by decide)
        unfold nn at this ⊢
        exact (congrArg Int32.toNatClampNeg this).trans (nI_clamp (by omega))
      have mk : ∀ p', p' < nn R 3 → nn (comR (lvR (lvR R p) q) 4 m (nI p) (nI q)) (9426 + 13 * p') = nn R (9426 + 13 * p') := fun p' hp' => by
        rw [← kk p']
        unfold nn
        rw [com_n (by omega) (by rw [n2]; omega)]
      have hD : BD s4.1 s4.2 z (va_up ow1 s1.1.1.2.1 0) (comR (lvR (lvR R p) q) 4 m (nI p) (nI q)) (nn (lvR (lvR R p) q) 3) s1.1.1.2.1 := by
        refine Or.inr ⟨m0, ?_⟩
        rw [m3, m4, mk p hp, mk q hq]
        exact i2
      have l34 : ∀ p' t, t = 3 ∨ t = 4 → nn (lvR (lvR R p) q) (9426 + 13 * p' + t) = nn R (9426 + 13 * p' + t) := fun p' t ht => by
        have l0 : ∀ R p, lvR R p (9426 + 13 * p' + t) = R (9426 + 13 * p' + t) := fun R p => by
          by_cases e : p' = p
          · subst e
            exact lvR_k (by omega) (by omega)
          · exact lvR_n (by omega)
        unfold nn
        rw [l0, l0]
      refine rn_bind (k_enlist (s := s4) (kd := 4) (mi := m) (x := nI p) (w := nI q) hNf hR2 (by rw [n2]; omega) (by rw [n2]; exact Nat.le_refl _) j2.1 hB4 (pb_com (fun p' hp' h4 => by
        rw [kk] at h4
        rw [n2] at hp' ⊢
        rw [l34 p' 3 (Or.inl rfl), l34 p' 4 (Or.inr rfl)]
        exact wp_two hR p' hp' h4) hP4) ⟨i2.1, i2.2.1, by rw [i2.2.2.1]; simp⟩ hD) (fun r hr => ?_)
      obtain ⟨r1, ow3, q3, j3, f3, b3, p3⟩ := hr
      rw [r1]
      have c3 := cj_ci j3 b3 p3
      rw [z0 (z := z)]
      refine rn_bind (k_answer c3.1) (fun r9 hr9 => rn_some ?_)
      have q4 := ci_lg c3 hr9.2
      exact ⟨hr9.1.trans (by rw [n2]), (((f1.tr j1.2).tr j2.2).tr f3).tr q4.2, ow3, _, q4.1⟩
    · refine rn_f hv ?_
      rw [if_pos hu, if_neg hv]
      refine rn_bind (k_refuse hK) (fun r hr => rn_some ?_)
      exact ko_mono (ko_lg h hr rfl) (Nat.le_succ c)
  · refine rn_t hu ?_
    unfold f_X11_pair_92
    refine rn_f hu ?_
    rw [if_neg hu]
    refine rn_bind (k_refuse hK) (fun r hr => rn_some ?_)
    exact ko_mono (ko_lg h hr rfl) (Nat.le_succ c)
end PAI
/-! 9g.undo.lean.txt -/
/-! undo() -/
def KU (z : Nat) (R K : Nat → Int32) (u : Bool) (c : Nat) (s : AS) (r : Int32 × AS) : Prop := r.1 = (if u then 1 else 0) ∧ RFR z s r.2 ∧ ∃ ow' y', CI r.2 z ow' (if u then K else R) K false y' c
def RU (z : Nat) (R K : Nat → Int32) (u : Bool) (d : Dt) (r : Int32 × Dt) : Prop := r.1 = (if u then 1 else 0) ∧ MFR z d r.2 ∧ RI r.2 z (if u then K else R) K false
section UND
variable {s s' : AS} {sh : Sh} {d d' d0 : Dt} {z : Nat} {ow ow' : Nat → Nat} {R R' K : Nat → Int32} {u : Bool} {y : YL} {c N : Nat} {q q' : BL}
theorem cs_wI {i k : Nat} {v : Int32} {Lp : Nat → Nat} {Lt Lg : Nat} (hw : OWS ow z) (hi : i < 222) (hc : cOl.getD i 1 = 0) (h0 : i ≠ 0 ∨ k ≠ 12) (hK : KS sh z) (h : CS sh d z ow Lp Lt Lg) : CS sh (wI d (z + i) k v) z ow Lp Lt Lg := by
  obtain ⟨k1, ⟨⟨S, V, k4, k5⟩, k6⟩, k7, b, g, b1, b2, b3, b4, b5, b6, b7, b8, b9⟩ := h
  have o := hw i (by omega) hc
  have e : ES (IX z ow i i) (sh, d) ow (sh, wI d (z + i) k v) ow := (fd_ix (by omega) o).es
  refine ⟨k1, ⟨⟨S, V, tb_ix (s := (sh, d)) k4 hK hw (by decide) e (by omega), k5⟩, k6⟩, k7, b, g, b1, b2, b3, b4, b5, b6, ?_, b8, fun j hj => ?_⟩
  · by_cases ei : i = 0
    · subst ei
      show (wI d (z + 0) k v).1 (z + 0) 12 = nI g
      rw [wI_s, va_up_n (by omega)]
      exact b7
    · rw [wI_n (by omega)]
      exact b7
  · rw [wI_n (fun e => by rw [e, o] at b2; omega)]
    exact b9 j hj
theorem k_undo (hNf : 300 ≤ N) (h : CI s z ow R K u y c) (hR : WF R) (hKF : WF K) : Rn (f_X11_undo N z s) (KU z R K u c s) := by
  obtain ⟨hK, hw, b1, b2, b3, b4, b5, b6, b7, b8, b9, b10, b11⟩ := id h
  unfold f_X11_undo
  refine rn_t (ks_o hK 0 11 rfl) ?_
  refine r_gI hK (i := 0) (c := 11) rfl ?_
  rw [b9]
  cases u with
  | false =>
    refine rn_f (fun q => q rfl) ?_
    refine rn_bind (k_answer hK) (fun r hr => rn_some ?_)
    have q3 := ci_lg h hr.2
    exact ⟨hr.1, q3.2, ow, y, q3.1⟩
  | true =>
    refine rn_t (by decide) ?_
    refine r_pI hK (i := 0) (c := 11) rfl ?_
    refine r_gP hK 0 11 1 3 rfl (by decide) ?_
    refine r_gP hK 0 11 2 40 rfl (by decide) ?_
    have o0 := hw 0 (by decide) (by decide)
    have e0 : ES (IX z ow 0 0) s ow (s.1, wI s.2 (z + 0) 13 0) ow := FD.es (sh := s.1) (d := s.2) (fd_ix (by decide) o0)
    have x1 := bk_ix b1 (Or.inl rfl) hK hw e0 (by omega)
    have x2 := bk_ix b2 (Or.inr rfl) hK hw e0 (by omega)
    have x3 := cs_wI (v := 0) hw (i := 0) (k := 13) (by decide) (by decide) (by decide) hK b3
    have x5 := pb_ix b5 hK hw e0 (by omega) (by omega)
    refine rn_bind (bk_become (s := (s.1, wI s.2 (z + 0) 13 0)) (by omega) (Or.inl rfl) (Or.inr rfl) (by omega) hK hw hR.1 hKF.1 hKF.2.1 x1 x2) (fun s1 hs => ?_)
    obtain ⟨ow1, q1, e1, y1, w1, m1⟩ := hs
    have hK1 := KS.es (s := (s.1, wI s.2 (z + 0) 13 0)) hK e1
    have hw1 := OWS.es (s := (s.1, wI s.2 (z + 0) 13 0)) hw hK e1
    have y2 := bk_ix (s := (s.1, wI s.2 (z + 0) 13 0)) x2 (Or.inr rfl) hK hw e1 (by omega)
    have y3 := cs_ix (s := (s.1, wI s.2 (z + 0) 13 0)) x3 hK hw e1 (by omega)
    have y5 := pb_ix (s := (s.1, wI s.2 (z + 0) 13 0)) x5 hK hw e1 (by omega) (by omega)
    have r0 := es_row (s := (s.1, wI s.2 (z + 0) 13 0)) hK hw e1 (i := 0) (by decide) (by omega)
    unfold f_X11_undo_29
    refine rn_eq (k_forget hK1) ?_
    have o77 := hw1 77 (by decide) (by decide)
    have o201 := hw1 201 (by decide) (by decide)
    have d2 : FD (IX z ow1 77 77) s1.2 (wI s1.2 (z + 77) 5 0) := fd_ix (by decide) o77
    have d3 : FD (IX z ow1 201 201) (wI s1.2 (z + 77) 5 0) (wI (wI (wI s1.2 (z + 77) 5 0) (z + 201) 4 0) (z + 201) 7 0) := (fd_ix (by decide) o201).tr (fd_ix (by decide) o201)
    have g2 : ES (IX z ow1 77 77) s1 ow1 (s1.1, wI s1.2 (z + 77) 5 0) ow1 := FD.es (sh := s1.1) (ow := ow1) d2
    have g3 : ES (IX z ow1 201 201) (s1.1, wI s1.2 (z + 77) 5 0) ow1 (s1.1, wI (wI (wI s1.2 (z + 77) 5 0) (z + 201) 4 0) (z + 201) 7 0) ow1 := FD.es (sh := s1.1) (ow := ow1) d3
    have v1 := bk_ix (s := (s1.1, wI s1.2 (z + 77) 5 0)) (bk_ix y1 (Or.inl rfl) hK1 hw1 g2 (by omega)) (Or.inl rfl) hK1 hw1 g3 (by omega)
    have v2 := bk_ix (s := (s1.1, wI s1.2 (z + 77) 5 0)) (bk_ix y2 (Or.inr rfl) hK1 hw1 g2 (by omega)) (Or.inr rfl) hK1 hw1 g3 (by omega)
    have v5 := pb_ix (s := (s1.1, wI s1.2 (z + 77) 5 0)) (pb_ix y5 hK1 hw1 g2 (by omega) (by omega)) hK1 hw1 g3 (by omega) (by omega)
    have v3 := cs_wI (v := 0) hw1 (i := 201) (k := 7) (by decide) (by decide) (by decide) hK1 (cs_wI (v := 0) hw1 (i := 201) (k := 4) (by decide) (by decide) (by decide) hK1 (cs_wI (v := 0) hw1 (i := 77) (k := 5) (by decide) (by decide) (by decide) hK1 y3))
    have c2 : CI (s1.1, wI (wI (wI s1.2 (z + 77) 5 0) (z + 201) 4 0) (z + 201) 7 0) z ow1 K K false (q1, y.2) c := by
      refine ⟨hK1, hw1, v1, v2, v3, v5, v5, Or.inl ?_, Or.inl ?_, Or.inl ?_, ?_, ?_, ?_, tln_0 ?_⟩
      · show (wI (wI (wI s1.2 (z + 77) 5 0) (z + 201) 4 0) (z + 201) 7 0).1 (z + 77) 5 = 0
        rw [wI_n (by omega), wI_n (by omega), wI_s, va_up_s]
      · show (wI (wI (wI s1.2 (z + 77) 5 0) (z + 201) 4 0) (z + 201) 7 0).1 (z + 201) 4 = 0
        rw [wI_s, va_up_n (by decide), wI_s, va_up_s]
      · show (wI (wI (wI s1.2 (z + 77) 5 0) (z + 201) 4 0) (z + 201) 7 0).1 (z + 201) 7 = 0
        rw [wI_s, va_up_s]
      · show (wI (wI (wI s1.2 (z + 77) 5 0) (z + 201) 4 0) (z + 201) 7 0).1 (z + 0) 13 = 0
        rw [wI_n (by omega), wI_n (by omega), wI_n (by omega), r0.1]
        show (wI s.2 (z + 0) 13 0).1 (z + 0) 13 = 0
        rw [wI_s, va_up_s]
      · have w1 : s1.1.1.2.2 + 2 * pot y.1 ≤ s.1.1.2.2 + 2 * pot q1 := w1
        show s1.1.1.2.2 ≤ 75638 + 2 * (pot q1 + pot y.2.1 + smN y.2.2.1 4 + y.2.2.2.1 + y.2.2.2.2) + 5 * c
        omega
      · have b11 := b11.1
        have m1 : 4 * s1.1.1.2.1 + pot y.1 ≤ 4 * s.1.1.2.1 + pot q1 := m1
        show 4 * s1.1.1.2.1 ≤ 4 * (z + 264) + (pot q1 + pot y.2.1 + smN y.2.2.1 4 + 4 * y.2.2.2.1 + y.2.2.2.2) + 4 * c
        omega
      · show (wI (wI (wI s1.2 (z + 77) 5 0) (z + 201) 4 0) (z + 201) 7 0).1 (z + 201) 7 = 0
        rw [wI_s, va_up_s]
    refine rn_bind (k_answer hK1) (fun r hr => rn_some ?_)
    have q3 := ci_lg c2 hr.2
    have f1 := (RFR.ix hK hw e0 (by omega)).tr ((RFR.ix (s := (s.1, wI s.2 (z + 0) 13 0)) hK hw e1 (by omega)).tr ((RFR.ix hK1 hw1 g2 (by omega)).tr (RFR.ix (s := (s1.1, wI s1.2 (z + 77) 5 0)) hK1 hw1 g3 (by omega))))
    exact ⟨hr.1, f1.tr q3.2, ow1, _, q3.1⟩
theorem undo_loop {Kr : Nat → Int32} (hK : KS sh z) (hA : AG Kr K) (hs : ∃ g, g ≤ 8000 ∧ d0.1 (z + 242) 8 = nI g) : ∀ (m i fu : Nat) (d : Dt), i + m = 15642 → m < fu → MFR z d0 d → d.1 (z + 244) = Kr → d.1 (z + 242) = d0.1 (z + 242) → (∀ k, k < i → d.1 (z + 243) k = Kr k) → Rn (f_X12_undo_15 N sh fu (z + 242) (nI i) d) (fun r => r.1 = 1 ∧ MFR z d0 r.2 ∧ RI r.2 z K K false)
  | 0, i, fu, d, hi, hf, hM, h4, h2, h3 => by
    obtain ⟨fu, rfl⟩ : ∃ q, fu = q + 1 := ⟨fu - 1, by omega⟩
    show Rn (g_X12_undo_15 N sh (f_X12_undo_15 N sh fu) (z + 242) (nI i) d) _
    unfold g_X12_undo_15 f_X12_undo_40
    have e : i = 15642 := by omega
    subst e
    refine rn_t (by decide) ?_
    refine r_pI hK (i := 242) (c := 12) rfl ?_
    refine r_pI hK (i := 242) (c := 12) rfl ?_
    refine rn_eq (m_says hK) (rn_some ⟨rfl, ?_, ?_⟩)
    · exact hM.tr ((MFR.wI (by decide) (by decide)).tr ((MFR.wI (by decide) (by decide)).tr (MFR.wI (by decide) (by decide))))
    · refine ri_rg ?_ (RG.w242 (Or.inl rfl))
      obtain ⟨g, g1, g2⟩ := hs
      refine ⟨fun k hk => ?_, fun h => (by cases h), ?_, ⟨g, g1, ?_⟩, Or.inl ?_⟩
      · rw [wI_n (by omega), wI_n (by omega), h3 k hk]
        exact hA k hk
      · rw [wI_s, va_up_n (by decide), wI_s, va_up_s]
        rfl
      · rw [wI_s, va_up_n (by decide), wI_s, va_up_n (by decide), h2]
        exact g2
      · rw [wI_s, va_up_s]
  | m + 1, i, fu, d, hi, hf, hM, h4, h2, h3 => by
    obtain ⟨fu, rfl⟩ : ∃ q, fu = q + 1 := ⟨fu - 1, by omega⟩
    have ih := undo_loop hK hA hs m (i + 1) fu
    show Rn (g_X12_undo_15 N sh (f_X12_undo_15 N sh fu) (z + 242) (nI i) d) _
    unfold g_X12_undo_15
    refine rn_f (nI_ge (a := i) (b := 15642) (by omega) (by decide)) ?_
    refine r_gP hK 242 12 0 243 rfl (by decide) ?_
    refine r_gP hK 242 12 1 244 rfl (by decide) ?_
    refine rn_eq (q_aT (ks_a hK 244 0 15642 rfl) i rfl (by omega) (by decide)) ?_
    refine rn_eq (q_sI (ks_a hK 243 0 15642 rfl) i rfl (by omega) (by decide)) ?_
    rw [nI_1]
    refine ih _ (by omega) (by omega) (hM.tr (MFR.wI (by decide) (by decide))) ?_ ?_ (fun k hk => ?_)
    · rw [wI_n (by omega)]
      exact h4
    · rw [wI_n (by omega)]
      exact h2
    · rw [wI_s]
      by_cases e : k = i
      · rw [e, va_up_s, h4]
      · rw [va_up_n e]
        exact h3 k (by omega)
theorem m_undo (hNf : 15642 < N) (hK : KS sh z) (h : RI d z R K u) : Rn (f_X12_undo N sh (z + 242) d) (RU z R K u d) := by
  obtain ⟨h1, h2, h3, h4, h5⟩ := id h
  unfold f_X12_undo
  refine rn_t (ks_o hK 242 12 rfl) ?_
  refine r_gI hK (i := 242) (c := 12) rfl ?_
  rw [h3]
  cases u with
  | false =>
    refine rn_f (fun q => q rfl) ?_
    refine rn_eq (m_says hK) (rn_some ?_)
    exact ⟨rfl, MFR.wI (by decide) (by decide), ri_rg h (RG.w242 (Or.inl rfl))⟩
  | true =>
    refine rn_t (by decide) ?_
    exact undo_loop (d0 := d) hK (h2 rfl) h4 15642 0 N d (by omega) (by omega) MFR.rf rfl rfl (fun k hk => absurd hk (Nat.not_lt_zero k))
end UND
/-! 9h.copy.lean.txt -/
/-! copy(), copies() -/
def cpR (R : Nat → Int32) (F T n : Nat) : Nat → Int32 := fun j => if 1426 + T ≤ j ∧ j < 1426 + T + n then R (1426 + F + (j - (1426 + T))) else if 5426 + T ≤ j ∧ j < 5426 + T + n then R (5426 + F + (j - (5426 + T))) else R j
/-- what bars the copying; 0: nothing -/
abbrev mis (R : Nat → Int32) (f t : Nat) : Prop := R (1366 + 3 * f + 2) = -1 ∨ R (1366 + 3 * t + 2) = -1
abbrev okc (R : Nat → Int32) (f : Nat) (i : Int32) (t : Nat) (j n : Int32) : Prop := 0 ≤ i.toInt ∧ 0 ≤ j.toInt ∧ 0 ≤ n.toInt ∧ i.toInt + n.toInt ≤ (nn R (1366 + 3 * f + 2) : Int) ∧ j.toInt + n.toInt ≤ (nn R (1366 + 3 * t + 2) : Int)
def agn (R : Nat → Int32) (f : Nat) (i : Int32) (t : Nat) (j n : Int32) : Int32 := if mis R f t then -4 else if okc R f i t j n then 0 else -5
section CPY
variable {s s' : AS} {sh : Sh} {d d' d0 : Dt} {z : Nat} {ow ow' : Nat → Nat} {R R' K : Nat → Int32} {u : Bool} {y : YL} {c N f t F T n k : Nat} {q q' : BL}
theorem agn_m {i j m : Int32} (h : mis R f t) : agn R f i t j m = -4 := if_pos h
theorem agn_n {i j m : Int32} (h : ¬ mis R f t) (h2 : ¬ okc R f i t j m) : agn R f i t j m = -5 := (if_neg h).trans (if_neg h2)
theorem agn_y {i j m : Int32} (h : ¬ mis R f t) (h2 : okc R f i t j m) : agn R f i t j m = 0 := (if_neg h).trans (if_pos h2)
theorem cp_0 : cpR R F T 0 = R := funext fun j => by
  unfold cpR
  rw [if_neg (by omega), if_neg (by omega)]
theorem cp_s (hT : T + k < 4000) : va_up (va_up (cpR R F T k) (1426 + T + k) (R (1426 + F + k))) (5426 + T + k) (R (5426 + F + k)) = cpR R F T (k + 1) := funext fun j => by
  by_cases e1 : j = 5426 + T + k
  · subst e1
    rw [va_up_s]
    unfold cpR
    rw [if_neg (by omega), if_pos (by omega), show 5426 + F + (5426 + T + k - (5426 + T)) = 5426 + F + k by omega]
  rw [va_up_n e1]
  by_cases e2 : j = 1426 + T + k
  · subst e2
    rw [va_up_s]
    unfold cpR
    rw [if_pos (by omega), show 1426 + F + (1426 + T + k - (1426 + T)) = 1426 + F + k by omega]
  rw [va_up_n e2]
  unfold cpR
  by_cases h1 : 1426 + T ≤ j ∧ j < 1426 + T + k
  · rw [if_pos h1, if_pos (show 1426 + T ≤ j ∧ j < 1426 + T + (k + 1) by omega)]
  rw [if_neg h1, if_neg (show ¬ (1426 + T ≤ j ∧ j < 1426 + T + (k + 1)) by omega)]
  by_cases h2 : 5426 + T ≤ j ∧ j < 5426 + T + k
  · rw [if_pos h2, if_pos (show 5426 + T ≤ j ∧ j < 5426 + T + (k + 1) by omega)]
  · rw [if_neg h2, if_neg (show ¬ (5426 + T ≤ j ∧ j < 5426 + T + (k + 1)) by omega)]
theorem cp_out {j : Nat} (hT : T + n ≤ 4000) (h : j < 1426 ∨ 9426 ≤ j) : cpR R F T n j = R j := by
  unfold cpR
  rw [if_neg (by omega), if_neg (by omega)]
theorem cp_wn (hN : WN R) (hT : T + n ≤ 4000) : WN (cpR R F T n) := by
  unfold WN nn
  rw [cp_out hT (by omega), cp_out hT (by omega), cp_out hT (by omega), cp_out hT (by omega), cp_out hT (by omega)]
  exact hN
theorem ri_o {i k : Nat} {v : Int32} (h : RI d z R K u) (h1 : 242 ≤ i) (h2 : i ≠ 242 ∧ i ≠ 243 ∧ i ≠ 244 ∧ i ≠ 247) : RI (wI d (z + i) k v) z R K u := by
  obtain ⟨a1, a2, a3, a4, a5⟩ := h
  refine ⟨?_, ?_, ?_, ?_, ?_⟩
  · rw [wI_n (by omega)]; exact a1
  · rw [wI_n (by omega)]; exact a2
  · rw [wI_n (by omega)]; exact a3
  · rw [wI_n (by omega)]; exact a4
  · rw [wI_n (by omega), wI_n (by omega)]; exact a5
theorem rdga {β : Type} {Q : β → Prop} {g : Int32 → Option β} {x : Int32} {p : Nat} (hK : KS sh z) (hA : AG (d.1 (z + 243)) R) (k : Nat) (hp : p < 20) (hk : k < 3) (hx : x = nI k) (kk : Rn (g (R (1366 + 3 * p + k))) Q) : Rn ((gP sh (z + 242) 12 0).bind fun v1 => (f_X12_ga N sh (z + 242) (nI p) d).bind fun v2 => (aT 0 sh d v1 (v2 + x)).bind g) Q := by
  subst hx
  refine r_gP hK 242 12 0 243 rfl (by decide) ?_
  refine rn_eq (m_ga hK) ?_
  refine rn_eq (q_aT (ks_a hK 243 0 15642 rfl) (1366 + 3 * p + k) (ix_ga p k) (by omega) (by decide)) ?_
  rw [hA _ (by omega)]
  exact kk
theorem brg2 (hK : KS sh z) (hN : WN R) (hT : T + n ≤ 4000) (hF : F + n ≤ 4000) (hn : n ≤ 200) {tt jj : Nat} (hTe : T = 200 * tt + jj) : ∀ (m k fu : Nat) (d : Dt), k + m = n → m < fu → MFR z d0 d → RI d z (cpR R F T k) K u → (∀ x, x < n → d.1 (z + 248) x = R (1426 + F + x) ∧ d.1 (z + 248) (200 + x) = R (5426 + F + x)) → Rn (f_X12_brings_75 N sh fu (z + 242) (nI tt) (nI jj) (nI n) (nI k) d) (fun d' => MFR z d0 d' ∧ RI d' z (cpR R F T n) K u)
  | 0, k, fu, d, hk, hf, hM, hI, hs => by
    obtain ⟨fu, rfl⟩ : ∃ q, fu = q + 1 := ⟨fu - 1, by omega⟩
    show Rn (g_X12_brings_75 N sh (f_X12_brings_75 N sh fu) (z + 242) (nI tt) (nI jj) (nI n) (nI k) d) _
    unfold g_X12_brings_75 f_X12_brings_146
    have e : k = n := by omega
    subst e
    exact rn_t (nI_le (Nat.le_refl _) (by omega)) (rn_some ⟨hM, hI⟩)
  | m + 1, k, fu, d, hk, hf, hM, hI, hs => by
    obtain ⟨fu, rfl⟩ : ∃ q, fu = q + 1 := ⟨fu - 1, by omega⟩
    have ih := brg2 hK hN hT hF hn hTe m (k + 1) fu
    show Rn (g_X12_brings_75 N sh (f_X12_brings_75 N sh fu) (z + 242) (nI tt) (nI jj) (nI n) (nI k) d) _
    unfold g_X12_brings_75
    have ha := ks_a hK 243 0 15642 rfl
    have hb := ks_a hK 248 0 400 rfl
    have ix : ∀ b : Nat, ((nI b + (200 : Int32) * nI tt) + nI jj) + nI k = nI (b + T + k) := fun b => by
      rw [show (200 : Int32) = nI 200 from rfl, pk_mul, nI_add, nI_add, nI_add, hTe]
      congr 1
      omega
    refine rn_f (nI_ge (by omega) (by omega)) ?_
    refine r_gP hK 242 12 0 243 rfl (by decide) ?_
    refine r_gP hK 242 12 11 248 rfl (by decide) ?_
    refine rn_eq (q_aT hb k rfl (by omega) (by decide)) ?_
    refine rn_eq (q_sI ha (1426 + T + k) (ix 1426) (by omega) (by decide)) ?_
    refine r_gP hK 242 12 0 243 rfl (by decide) ?_
    refine r_gP hK 242 12 11 248 rfl (by decide) ?_
    refine rn_eq (q_aT hb (200 + k) (by rw [show (200 : Int32) = nI 200 from rfl, nI_add]) (by omega) (by decide)) ?_
    refine rn_eq (q_sI ha (5426 + T + k) (ix 5426) (by omega) (by decide)) ?_
    rw [nI_1, wI_n (show z + 248 ≠ z + 243 by omega), (hs k (by omega)).1, (hs k (by omega)).2]
    have w1 := cp_wn (F := F) (T := T) (n := k) hN (by omega)
    have r1 := ri_cellG (j := 1426 + T + k) (v := R (1426 + F + k)) hI w1 (by omega) (fun s k _ q1 q2 => by omega)
    have r2 := ri_cellG (j := 5426 + T + k) (v := R (5426 + F + k)) r1 (wn_up w1 (by omega)) (by omega) (fun s k _ q1 q2 => by omega)
    rw [cp_s (by omega)] at r2
    refine ih _ (by omega) (by omega) (hM.tr ((MFR.wI (by decide) (by decide)).tr (MFR.wI (by decide) (by decide)))) r2 (fun x hx => ?_)
    rw [wI_n (by omega), wI_n (by omega)]
    exact hs x hx
theorem brg1 (hK : KS sh z) (hN : WN R) (hT : T + n ≤ 4000) (hF : F + n ≤ 4000) (hn : n ≤ 200) (hn2 : 300 ≤ N) {ff ii tt jj : Nat} (hFe : F = 200 * ff + ii) (hTe : T = 200 * tt + jj) : ∀ (m k fu : Nat) (d : Dt), k + m = n → m < fu → MFR z d0 d → RI d z R K u → (∀ x, x < k → d.1 (z + 248) x = R (1426 + F + x) ∧ d.1 (z + 248) (200 + x) = R (5426 + F + x)) → Rn (f_X12_brings_3 N sh fu (z + 242) (nI ff) (nI ii) (nI tt) (nI jj) (nI n) (nI k) d) (fun d' => MFR z d0 d' ∧ RI d' z (cpR R F T n) K u)
  | 0, k, fu, d, hk, hf, hM, hI, hs => by
    obtain ⟨fu, rfl⟩ : ∃ q, fu = q + 1 := ⟨fu - 1, by omega⟩
    show Rn (g_X12_brings_3 N sh (f_X12_brings_3 N sh fu) (z + 242) (nI ff) (nI ii) (nI tt) (nI jj) (nI n) (nI k) d) _
    unfold g_X12_brings_3 f_X12_brings_72
    have e : k = n := by omega
    subst e
    refine rn_t (nI_le (Nat.le_refl _) (by omega)) ?_
    exact brg2 hK hN hT hF hn hTe k 0 N d (by omega) (by omega) hM (by rw [cp_0]; exact hI) hs
  | m + 1, k, fu, d, hk, hf, hM, hI, hs => by
    obtain ⟨fu, rfl⟩ : ∃ q, fu = q + 1 := ⟨fu - 1, by omega⟩
    have ih := brg1 hK hN hT hF hn hn2 hFe hTe m (k + 1) fu
    show Rn (g_X12_brings_3 N sh (f_X12_brings_3 N sh fu) (z + 242) (nI ff) (nI ii) (nI tt) (nI jj) (nI n) (nI k) d) _
    unfold g_X12_brings_3
    have ha := ks_a hK 243 0 15642 rfl
    have hb := ks_a hK 248 0 400 rfl
    have ix : ∀ b : Nat, ((nI b + (200 : Int32) * nI ff) + nI ii) + nI k = nI (b + F + k) := fun b => by
      rw [show (200 : Int32) = nI 200 from rfl, pk_mul, nI_add, nI_add, nI_add, hFe]
      congr 1
      omega
    refine rn_f (nI_ge (by omega) (by omega)) ?_
    refine r_gP hK 242 12 11 248 rfl (by decide) ?_
    refine rdg hK hI.1 (1426 + F + k) (ix 1426) (by omega) ?_
    refine rn_eq (q_sI hb k rfl (by omega) (by decide)) ?_
    refine r_gP hK 242 12 11 248 rfl (by decide) ?_
    have i1 := ri_o (i := 248) (k := k) (v := R (1426 + F + k)) hI (by decide) (by decide)
    refine rdg hK i1.1 (5426 + F + k) (ix 5426) (by omega) ?_
    refine rn_eq (q_sI hb (200 + k) (by rw [show (200 : Int32) = nI 200 from rfl, nI_add]) (by omega) (by decide)) ?_
    rw [nI_1]
    refine ih _ (by omega) (by omega) (hM.tr ((MFR.wI (by decide) (by decide)).tr (MFR.wI (by decide) (by decide)))) (ri_o i1 (by decide) (by decide)) (fun x hx => ?_)
    rw [wI_s, wI_s]
    by_cases e : x = k
    · subst e
      rw [va_up_n (by omega), va_up_s, va_up_s]
      exact ⟨rfl, rfl⟩
    · have h2 := hs x (by omega)
      rw [va_up_n (by omega), va_up_n e, va_up_n (by omega), va_up_n (by omega)]
      exact h2
theorem agn_0 {i j m : Int32} (hN : WN R) (hG : WG R) (hf : f < nn R 2) (ht : t < nn R 2) (h : agn R f i t j m = 0) : ∃ ii jj mm, i = nI ii ∧ j = nI jj ∧ m = nI mm ∧ ii + mm ≤ nn R (1366 + 3 * f + 2) ∧ jj + mm ≤ nn R (1366 + 3 * t + 2) ∧ nn R (1366 + 3 * f + 2) ≤ 200 ∧ nn R (1366 + 3 * t + 2) ≤ 200 := by
  have g1 := (hG f hf).2
  have g2 := (hG t ht).2
  by_cases h1 : mis R f t
  · rw [agn_m h1] at h
    exact absurd h (by decide)
  by_cases h2 : okc R f i t j m
  · obtain ⟨a1, a2, a3, a4, a5⟩ := h2
    have z0 : (0 : Int32).toInt = 0 := by decide
    obtain ⟨ii, hi, rfl⟩ := nI_of (x := i) (by rw [Int32.lt_iff_toInt_lt, z0]; omega)
    obtain ⟨jj, hj, rfl⟩ := nI_of (x := j) (by rw [Int32.lt_iff_toInt_lt, z0]; omega)
    obtain ⟨mm, hm, rfl⟩ := nI_of (x := m) (by rw [Int32.lt_iff_toInt_lt, z0]; omega)
    rw [nI_toInt hi, nI_toInt hm] at a4
    rw [nI_toInt hj, nI_toInt hm] at a5
    exact ⟨ii, jj, mm, rfl, rfl, rfl, by omega, by omega, g1, g2⟩
  · rw [agn_n h1 h2] at h
    exact absurd h (by decide)
theorem m_against {i j m : Int32} (hK : KS sh z) (hN : WN R) (hG : WG R) (hA : AG (d.1 (z + 243)) R) (hf : f < nn R 2) (ht : t < nn R 2) : f_X12_against N sh (z + 242) (nI f) i (nI t) j m d = some (agn R f i t j m) := by
  have n2 := hN.2.2.1.2
  have g1 := hG f hf
  have g2 := hG t ht
  refine rn_val ?_
  unfold f_X12_against f_X12_against_38 f_X12_against_82 f_X12_against_88
  refine rn_t (ks_o hK 242 12 rfl) ?_
  refine rdga hK hA 2 (by omega) (by decide) rfl ?_
  refine rdga hK hA 2 (by omega) (by decide) rfl ?_
  by_cases h1 : R (1366 + 3 * f + 2) = -1
  · rw [agn_m (Or.inl h1)]
    exact rn_t (by rw [h1]; decide) (rn_some rfl)
  have e1 := g1.1.resolve_left h1
  refine rn_f (by rw [e1]; exact nI_pos (by omega)) ?_
  by_cases h2 : R (1366 + 3 * t + 2) = -1
  · rw [agn_m (Or.inr h2)]
    exact rn_f (by rw [h2]; decide) (rn_some rfl)
  have e2 := g2.1.resolve_left h2
  refine rn_t (by rw [e2]; exact nI_pos' (by omega)) ?_
  have hm : ¬ mis R f t := fun q => q.elim h1 h2
  have z0 : (0 : Int32).toInt = 0 := by decide
  have lt0 : ∀ x : Int32, x < 0 ↔ x.toInt < 0 := fun x => by rw [Int32.lt_iff_toInt_lt, z0]
  refine rn_ite (fun h3 => ?_) (fun h3 => ?_)
  · rw [agn_n hm (fun q => by have := (lt0 i).mp h3; omega)]
    exact rn_some rfl
  refine rn_ite (fun h4 => ?_) (fun h4 => ?_)
  · rw [agn_n hm (fun q => by have := (lt0 j).mp h4; omega)]
    exact rn_some rfl
  refine rn_ite (fun h5 => ?_) (fun h5 => ?_)
  · rw [agn_n hm (fun q => by have := (lt0 m).mp h5; omega)]
    exact rn_some rfl
  obtain ⟨ii, hi, rfl⟩ := nI_of h3
  obtain ⟨jj, hj, rfl⟩ := nI_of h4
  obtain ⟨mm, hmm, rfl⟩ := nI_of h5
  have t1 := nI_toInt hi
  have t2 := nI_toInt hj
  have t3 := nI_toInt hmm
  rw [e1, e2, nI_l hi, nI_l hj, nI_l hmm, nI_l (show nn R (1366 + 3 * f + 2) < 2 ^ 31 by omega), nI_l (show nn R (1366 + 3 * t + 2) < 2 ^ 31 by omega), lN_add, lN_add]
  refine rn_ite (fun h6 => ?_) (fun h6 => ?_)
  · rw [lg_cmp_gt, pk_lLT (by omega) (by omega)] at h6
    rw [agn_n hm (fun q => by omega)]
    exact rn_some rfl
  rw [lg_cmp_gt, pk_lLT (by omega) (by omega)] at h6
  refine rn_ite (fun h7 => ?_) (fun h7 => ?_)
  · rw [lg_cmp_le, pk_lLE (by omega) (by omega)] at h7
    rw [agn_y hm ⟨by omega, by omega, by omega, by omega, by omega⟩]
    exact rn_some rfl
  · rw [lg_cmp_le, pk_lLE (by omega) (by omega)] at h7
    rw [agn_n hm (fun q => by omega)]
    exact rn_some rfl
theorem m_brings {i j m : Int32} (hn2 : 300 ≤ N) (hK : KS sh z) (hN : WN R) (hG : WG R) (hI : RI d z R K u) (hf : f < nn R 2) (ht : t < nn R 2) (h : agn R f i t j m = 0) : Rn (f_X12_brings N sh (z + 242) (nI f) i (nI t) j m d) (fun d' => MFR z d d' ∧ RI d' z (cpR R (200 * f + i.toNatClampNeg) (200 * t + j.toNatClampNeg) m.toNatClampNeg) K u) := by
  have n2 := hN.2.2.1.2
  obtain ⟨ii, jj, mm, rfl, rfl, rfl, a1, a2, a3, a4⟩ := agn_0 hN hG hf ht h
  rw [nI_clamp (by omega), nI_clamp (by omega), nI_clamp (by omega)]
  unfold f_X12_brings
  refine rn_t (ks_o hK 242 12 rfl) ?_
  exact brg1 hK hN (by omega) (by omega) (by omega) hn2 rfl rfl mm 0 N d (by omega) (by omega) MFR.rf hI (fun x hx => absurd hx (Nat.not_lt_zero x))
def sp_copy (R : Nat → Int32) (x i x2 j m : Int32) : Int32 × Option (Nat → Int32) := if ((x < 0 ∨ nI (nn R 2) ≤ x) ∨ (x2 < 0 ∨ nI (nn R 2) ≤ x2)) ∨ R (1366 + 3 * x.toNatClampNeg + 1) ≠ R (1366 + 3 * x2.toNatClampNeg + 1) then (-2, none) else if agn R x.toNatClampNeg i x2.toNatClampNeg j m = 0 then (1, some (cpR R (200 * x.toNatClampNeg + i.toNatClampNeg) (200 * x2.toNatClampNeg + j.toNatClampNeg) m.toNatClampNeg)) else (agn R x.toNatClampNeg i x2.toNatClampNeg j m, none)
theorem m_copy {x i x2 j m : Int32} (hNf : 15642 < N) (hK : KS sh z) (h : RI d z R K u) (hR : WF R) : Rn (f_X12_copy N sh (z + 242) x i x2 j m d) (RO z R K u (sp_copy R x i x2 j m) d) := by
  have hN := hR.1
  have n2 := hN.2.2.1.2
  have bad : ((x < 0 ∨ nI (nn R 2) ≤ x) ∨ (x2 < 0 ∨ nI (nn R 2) ≤ x2)) ∨ R (1366 + 3 * x.toNatClampNeg + 1) ≠ R (1366 + 3 * x2.toNatClampNeg + 1) → Rn (f_X12_copy_43 N sh (z + 242) d) (RO z R K u (sp_copy R x i x2 j m) d) := fun hb => by
    rw [show sp_copy R x i x2 j m = _ from if_pos hb]
    exact ro_refuses hK h rfl
  unfold f_X12_copy
  refine rn_t (ks_o hK 242 12 rfl) ?_
  refine rn_eq (ri_isGauge hK h hN) ?_
  refine rn_ite (fun h1 => bad (Or.inl (Or.inl (ite01.mp h1)))) (fun h1 => ?_)
  refine rn_eq (ri_isGauge hK h hN) ?_
  refine rn_ite (fun h2 => bad (Or.inl (Or.inr (ite01.mp h2)))) (fun h2 => ?_)
  have h1 : ¬ (x < 0 ∨ nI (nn R 2) ≤ x) := fun q => h1 (ite01.mpr q)
  have h2 : ¬ (x2 < 0 ∨ nI (nn R 2) ≤ x2) := fun q => h2 (ite01.mpr q)
  obtain ⟨f, hf, rfl, e1⟩ := st_of (by omega) h1
  obtain ⟨t, ht, rfl, e2⟩ := st_of (by omega) h2
  refine rdga hK h.1 1 (by omega) (by decide) rfl ?_
  refine rdga hK h.1 1 (by omega) (by decide) rfl ?_
  refine rn_ite (fun h3 => ?_) (fun h3 => bad (Or.inr (by rw [e1, e2]; exact h3)))
  rw [show sp_copy R (nI f) i (nI t) j m = _ from if_neg (fun q => q.elim (fun q => q.elim h1 h2) (fun q => q (by rw [e1, e2]; exact h3))), e1, e2]
  refine rn_eq (m_against hK hN hR.2.1 h.1 hf ht) ?_
  by_cases ha : agn R f i t j m = 0
  · refine rn_t ha ?_
    rw [if_pos ha]
    refine rn_bind (ri_keeps h hK hNf) (fun d1 hd => ?_)
    obtain ⟨x1, x2⟩ := hd
    refine rn_bind (m_brings (by omega) hK hN hR.2.1 x1 hf ht ha) (fun d2 hd2 => ?_)
    exact ro_done hK hd2.2 (x2.tr hd2.1) rfl
  · refine rn_f ha ?_
    rw [if_neg ha]
    exact ro_refuses hK h rfl
/-! the class -/
theorem k_isOfShorts {g : Nat} (hR : WC R) (hK : KS sh z) {L : Nat → Nat} (hT : TB sh d z ow 15 3 (nn R 2) (vG R) L) (hg : g < nn R 2) : f_X1_isOfShorts N sh (z + 3) (nI g) d = some (R (1366 + 3 * g + 1)) := by
  refine rn_val ?_
  unfold f_X1_isOfShorts
  refine rn_t (ks_o hK 3 1 rfl) ?_
  refine r_gP hK 3 1 2 15 rfl (by decide) ?_
  refine rn_eq (tb_get (o := 15) (nc := 3) (c := 1) hK (by decide) hT rfl hg rfl (by decide)) ?_
  have ev : vG R 1 g = R (1366 + 3 * g + 1) := rfl
  rw [ev]
  rcases (hR.1 g hg).2 with e | e
  · rw [e]
    exact rn_t (by decide) ⟨0, rfl, rfl⟩
  · rw [e]
    exact rn_f (fun q => q rfl) ⟨1, rfl, rfl⟩
theorem k_reaches {g : Nat} {i m : Int32} (hK : KS sh z) {L : Nat → Nat} (hT : TB sh d z ow 15 3 (nn R 2) (vG R) L) (hg : g < nn R 2) (he : R (1366 + 3 * g + 2) = nI (nn R (1366 + 3 * g + 2))) (hb : nn R (1366 + 3 * g + 2) ≤ 200) : f_X1_reaches N sh (z + 3) (nI g) i m d = some (if 0 ≤ i.toInt ∧ 0 ≤ m.toInt ∧ i.toInt + m.toInt ≤ (nn R (1366 + 3 * g + 2) : Int) then 1 else 0) := by
  have z0 : (0 : Int32).toInt = 0 := by decide
  have lt0 : ∀ x : Int32, x < 0 ↔ x.toInt < 0 := fun x => by rw [Int32.lt_iff_toInt_lt, z0]
  refine rn_val ?_
  unfold f_X1_reaches f_X1_reaches_27 f_X1_reaches_28
  refine rn_t (ks_o hK 3 1 rfl) ?_
  refine rn_ite (fun h3 => ?_) (fun h3 => ?_)
  · rw [show (if 0 ≤ i.toInt ∧ 0 ≤ m.toInt ∧ i.toInt + m.toInt ≤ (nn R (1366 + 3 * g + 2) : Int) then (1 : Int32) else 0) = 0 from if_neg (fun q => by have := (lt0 i).mp h3; omega)]
    exact ⟨0, rfl, rfl⟩
  refine rn_ite (fun h5 => ?_) (fun h5 => ?_)
  · rw [show (if 0 ≤ i.toInt ∧ 0 ≤ m.toInt ∧ i.toInt + m.toInt ≤ (nn R (1366 + 3 * g + 2) : Int) then (1 : Int32) else 0) = 0 from if_neg (fun q => by have := (lt0 m).mp h5; omega)]
    exact ⟨0, rfl, rfl⟩
  obtain ⟨ii, hi, rfl⟩ := nI_of h3
  obtain ⟨mm, hm, rfl⟩ := nI_of h5
  refine r_gP hK 3 1 2 15 rfl (by decide) ?_
  refine rn_eq (tb_get (o := 15) (nc := 3) (c := 2) hK (by decide) hT rfl hg rfl (by decide)) ?_
  have ev : vG R 2 g = R (1366 + 3 * g + 2) := rfl
  rw [ev, he, nI_toInt hi, nI_toInt hm]
  have hsub : (nI (nn R (1366 + 3 * g + 2)) - nI mm).toInt = (nn R (1366 + 3 * g + 2) : Int) - mm := by
    rw [Int32.toInt_sub, nI_toInt (by omega), nI_toInt hm]
    exact Int.bmod_eq_of_le (by omega) (by omega)
  refine rn_ite (fun h6 => ?_) (fun h6 => ?_)
  · rw [Int32.lt_iff_toInt_lt, hsub, nI_toInt hi] at h6
    rw [if_neg (fun q => by omega)]
    exact ⟨0, rfl, rfl⟩
  · rw [Int32.lt_iff_toInt_lt, hsub, nI_toInt hi] at h6
    rw [if_pos (by omega)]
    exact ⟨1, rfl, rfl⟩
theorem k_whyUncopied {i j m : Int32} (hK : KS sh z) (hN : WN R) (hG : WG R) (hB : BK sh d z ow 3 R q) (hf : f < nn R 2) (ht : t < nn R 2) : f_X1_whyUncopied N sh (z + 3) (nI f) i (nI t) j m d = some (agn R f i t j m) := by
  have g1 := hG f hf
  have g2 := hG t ht
  refine rn_val ?_
  unfold f_X1_whyUncopied f_X1_whyUncopied_16 f_X1_whyUncopied_46 f_X1_whyUncopied_48
  refine rn_t (ks_o hK 3 1 rfl) ?_
  refine rn_eq (k_isMissing (b := 3) (Or.inl rfl) hK hB.bt.1 hf) ?_
  by_cases h1 : R (1366 + 3 * f + 2) = -1
  · rw [if_pos h1, agn_m (Or.inl h1)]
    exact rn_t (by decide) (rn_some rfl)
  rw [if_neg h1]
  refine rn_f (fun q => q rfl) ?_
  refine rn_eq (k_isMissing (b := 3) (Or.inl rfl) hK hB.bt.1 ht) ?_
  by_cases h2 : R (1366 + 3 * t + 2) = -1
  · rw [if_pos h2, agn_m (Or.inr h2)]
    exact rn_f (by decide) (rn_some rfl)
  rw [if_neg h2]
  refine rn_t rfl ?_
  have hm : ¬ mis R f t := fun q => q.elim h1 h2
  refine rn_eq (k_reaches hK hB.2.2.1 hf (g1.1.resolve_left h1) g1.2) ?_
  by_cases h3 : 0 ≤ i.toInt ∧ 0 ≤ m.toInt ∧ i.toInt + m.toInt ≤ (nn R (1366 + 3 * f + 2) : Int)
  · rw [if_pos h3]
    refine rn_f (by decide) ?_
    refine rn_eq (k_reaches hK hB.2.2.1 ht (g2.1.resolve_left h2) g2.2) ?_
    by_cases h4 : 0 ≤ j.toInt ∧ 0 ≤ m.toInt ∧ j.toInt + m.toInt ≤ (nn R (1366 + 3 * t + 2) : Int)
    · rw [if_pos h4, agn_y hm ⟨h3.1, h4.1, h3.2.1, h3.2.2, h4.2.2⟩]
      exact rn_f (by decide) (rn_some rfl)
    · rw [if_neg h4, agn_n hm (fun q => h4 ⟨q.2.1, q.2.2.1, q.2.2.2.2⟩)]
      exact rn_t rfl (rn_some rfl)
  · rw [if_neg h3, agn_n hm (fun q => h3 ⟨q.1, q.2.2.1, q.2.2.2.1⟩)]
    exact rn_t rfl (rn_some rfl)
theorem vC_cp {j : Nat} (hT : T + n ≤ 4000) (hj : j < 4000) : vC (cpR R F T n) j = if T ≤ j ∧ j < T + n then vC R (F + (j - T)) else vC R j := by
  unfold vC
  by_cases h : T ≤ j ∧ j < T + n
  · have e1 : cpR R F T n (5426 + j) = R (5426 + (F + (j - T))) := by
      unfold cpR
      rw [if_neg (by omega), if_pos (by omega)]
      congr 1
      omega
    have e2 : cpR R F T n (1426 + j) = R (1426 + (F + (j - T))) := by
      unfold cpR
      rw [if_pos (by omega)]
      congr 1
      omega
    rw [if_pos h, e1, e2]
  · have e1 : cpR R F T n (5426 + j) = R (5426 + j) := by
      unfold cpR
      rw [if_neg (by omega), if_neg (by omega)]
    have e2 : cpR R F T n (1426 + j) = R (1426 + j) := by
      unfold cpR
      rw [if_neg (by omega), if_neg (by omega)]
    rw [if_neg h, e1, e2]
theorem k_copyR {i j m : Int32} (hK : KS sh z) (hw : OWS ow z) (hR : WDn R) (hB : BK sh d z ow 3 R q) (hf : f < nn R 2) (ht : t < nn R 2) (h : agn R f i t j m = 0) : Rn (f_X1_copyReadings N sh (z + 3) (nI f) i (nI t) j m d) (fun d' => FD (IX z ow 3 3) d d' ∧ BK sh d' z ow 3 (cpR R (200 * f + i.toNatClampNeg) (200 * t + j.toNatClampNeg) m.toNatClampNeg) q) := by
  have n1 := hR.1.2.1.2
  have n2 := hR.1.2.2.1.2
  obtain ⟨ii, jj, mm, rfl, rfl, rfl, a1, a2, a3, a4⟩ := agn_0 hR.1 hR.2.1 hf ht h
  rw [nI_clamp (by omega), nI_clamp (by omega), nI_clamp (by omega)]
  obtain ⟨a, z1, z2, z3, z4, z5, z6⟩ := hB.bt.2
  have hL := hB.bt.1.2.2.2.2.2.1
  have e1 : ∀ g x, nI g * (200 : Int32) + nI x = nI (200 * g + x) := fun g x => by
    rw [show (200 : Int32) = nI 200 from rfl, pk_mul, nI_add, Nat.mul_comm g 200]
  unfold f_X1_copyReadings
  refine rn_t (ks_o hK 3 1 rfl) ?_
  refine r_gQ hK a z1 (i := 3) (c := 1) rfl ?_
  refine r_gQ hK a z1 (i := 3) (c := 1) rfl ?_
  rw [e1, e1]
  refine rn_eq (cpy_J ⟨z3, z4⟩ ⟨z3, z4⟩ (by omega) (by omega) (by omega) (by omega)) (rn_some ⟨fun b hb => ?_, ?_⟩)
  · have hne : b ≠ a := fun e => hb (by rw [e]; unfold IX; rw [onr_r (o := 3) (k := 0) z2 (by omega)]; omega)
    exact ⟨rfl, va_up_n hne, rfl, rfl⟩
  · have hT9 : 200 * t + jj + mm ≤ 4000 := by omega
    have hbt : BT sh (d.1, va_up d.2.1 a (va_cpy (d.2.1 a) (d.2.1 a) (200 * f + ii) (200 * t + jj) mm), d.2.2) z ow 3 R q := hB.bt.1
    refine (bt_congr2 hR.1 (fun i hi => by have := hR.2.2 i hi; omega) hbt (fun j hj => cp_out hT9 (by omega))).bk ?_
    refine ⟨a, z1, z2, z3, z4, z5, fun k hk => ?_⟩
    have hk2 : inC R k := by
      obtain ⟨g, hh, q1, q2, q3⟩ := hk
      have en : ∀ j, j < 1426 → nn (cpR R (200 * f + ii) (200 * t + jj) mm) j = nn R j := fun j hj => by unfold nn; rw [cp_out hT9 (by omega)]
      rw [en 2 (by omega)] at q1
      rw [en _ (by omega)] at q2
      exact ⟨g, hh, q1, q2, q3⟩
    have r := z6 k hk2
    have k4 := inC_lt hR.1 hR.2.1 hk2
    refine ⟨r.1, ?_⟩
    show va_up d.2.1 a (va_cpy (d.2.1 a) (d.2.1 a) (200 * f + ii) (200 * t + jj) mm) a k = _
    rw [va_up_s, vC_cp hT9 k4]
    by_cases hc : 200 * t + jj ≤ k ∧ k < 200 * t + jj + mm
    · rw [if_pos hc, pk_cpy_in hc.1 hc.2]
      exact (z6 _ ⟨f, ii + (k - (200 * t + jj)), hf, by omega, by omega⟩).2
    · rw [if_neg hc, pk_cpy_out (by omega)]
      exact r.2
theorem k_copy {x i x2 j m : Int32} (hNf : 300 ≤ N) (h : CI s z ow R K u y c) (hR : WF R) (hKF : WF K) : Rn (f_X11_copy N z x i x2 j m s) (KO z R K u c (sp_copy R x i x2 j m) s) := by
  have hK := h.1
  have hN := hR.1
  have n2 := hN.2.2.1.2
  have hB : BK s.1 s.2 z ow 3 R y.1 := h.2.2.1
  have bad : ((x < 0 ∨ nI (nn R 2) ≤ x) ∨ (x2 < 0 ∨ nI (nn R 2) ≤ x2)) ∨ R (1366 + 3 * x.toNatClampNeg + 1) ≠ R (1366 + 3 * x2.toNatClampNeg + 1) → Rn (f_X11_copy_47 N z s) (KO z R K u c (sp_copy R x i x2 j m) s) := fun hb => by
    rw [show sp_copy R x i x2 j m = _ from if_pos hb]
    unfold f_X11_copy_47
    refine rn_bind (k_refuse hK) (fun r hr => rn_some ?_)
    exact ko_lg h hr rfl
  unfold f_X11_copy
  refine rn_t (ks_o hK 0 11 rfl) ?_
  refine r_now hK 2 15 (by decide) ?_
  refine rn_eq (tb_has (o := 15) (nc := 3) hK (by decide) hB.2.2.1) ?_
  refine rn_ite (fun h1 => bad (Or.inl (Or.inl (ite01.mp h1)))) (fun h1 => ?_)
  refine r_now hK 2 15 (by decide) ?_
  refine rn_eq (tb_has (o := 15) (nc := 3) hK (by decide) hB.2.2.1) ?_
  refine rn_ite (fun h2 => bad (Or.inl (Or.inr (ite01.mp h2)))) (fun h2 => ?_)
  have h1 : ¬ (x < 0 ∨ nI (nn R 2) ≤ x) := fun q => h1 (ite01.mpr q)
  have h2 : ¬ (x2 < 0 ∨ nI (nn R 2) ≤ x2) := fun q => h2 (ite01.mpr q)
  obtain ⟨f, hf, rfl, e1⟩ := st_of (by omega) h1
  obtain ⟨t, ht, rfl, e2⟩ := st_of (by omega) h2
  refine r_gP hK 0 11 1 3 rfl (by decide) ?_
  refine rn_eq (k_isOfShorts hR.2.2.2.1 hK hB.2.2.1 hf) ?_
  refine r_gP hK 0 11 1 3 rfl (by decide) ?_
  refine rn_eq (k_isOfShorts hR.2.2.2.1 hK hB.2.2.1 ht) ?_
  refine rn_ite (fun h3 => ?_) (fun h3 => bad (Or.inr (by rw [e1, e2]; exact h3)))
  rw [show sp_copy R (nI f) i (nI t) j m = _ from if_neg (fun q => q.elim (fun q => q.elim h1 h2) (fun q => q (by rw [e1, e2]; exact h3))), e1, e2]
  refine r_gP hK 0 11 1 3 rfl (by decide) ?_
  refine rn_eq (k_whyUncopied hK hN hR.2.1 hB hf ht) ?_
  by_cases ha : agn R f i t j m = 0
  · refine rn_t ha ?_
    rw [if_pos ha]
    refine rn_bind (ci_change (by omega) h hR.1 hR.2.1 hKF.1) (fun s1 hs => ?_)
    obtain ⟨f1, g1, g2, g3, ow1, y1, -, c1⟩ := hs
    have hK1 := c1.1
    unfold f_X11_copy_86
    refine r_gP hK1 0 11 1 3 rfl (by decide) ?_
    refine rn_bind (k_copyR hK1 c1.2.1 (wdn_of hR) c1.2.2.1 hf ht ha) (fun d1 hd => ?_)
    obtain ⟨ii, jj, mm, rfl, rfl, rfl, a1, a2, a3, a4⟩ := agn_0 hR.1 hR.2.1 hf ht ha
    have hT9 : 200 * t + (nI jj).toNatClampNeg + (nI mm).toNatClampNeg ≤ 4000 := by
      rw [nI_clamp (by omega), nI_clamp (by omega)]
      omega
    have qn := ci_new c1 g1 g2 g3 (hd.1.mono (fun a ha => ix_mono ha (by omega) (by omega))) hd.2 (pb_congr c1.2.2.2.2.2.1 (cp_out hT9 (by omega)) (fun k hk => cp_out hT9 (by omega)))
    refine rn_bind (k_answer hK1) (fun r hr => rn_some ?_)
    have q3 := ci_lg qn.1 hr.2
    exact ⟨hr.1, (f1.tr qn.2).tr q3.2, ow1, _, q3.1⟩
  · refine rn_f ha ?_
    rw [if_neg ha]
    refine rn_bind (k_refuse hK) (fun r hr => rn_some ?_)
    exact ko_lg h hr rfl
end CPY
/-! 9i.copies.lean.txt -/
/-! copies() -/
def cpsF (R : Nat → Int32) (i j m : Nat) : Nat → Nat → Int32
  | 0 => R
  | k + 1 => cpR (cpsF R i j m k) (200 * k + i) (200 * k + j) m
def cpk (R : Nat → Int32) (i j m : Int32) : Nat → Nat → Nat
  | 0, g => g
  | k + 1, g => if agn R g i g j m = 0 then cpk R i j m k (g + 1) else g
def cpo (R : Nat → Int32) (i j m : Int32) (k : Nat) : Int32 × Option (Nat → Int32) := (nI k, if k = 0 then none else some (cpsF R i.toNatClampNeg j.toNatClampNeg m.toNatClampNeg k))
def sp_copies (R : Nat → Int32) (i j m : Int32) : Int32 × Option (Nat → Int32) := cpo R i j m (cpk R i j m (nn R 2) 0)
section CPS
variable {s s' s0 : AS} {sh : Sh} {d d' d0 : Dt} {z : Nat} {ow ow' : Nat → Nat} {R R' K : Nat → Int32} {u : Bool} {y : YL} {c N g k : Nat} {q q' : BL} {i j m : Int32}
/-- the first k gauges bear it -/
def cok (R : Nat → Int32) (i j m : Int32) (k : Nat) : Prop := k ≤ nn R 2 ∧ ∀ g, g < k → agn R g i g j m = 0
theorem cok_b (hR : WF R) (h : cok R i j m k) (hg : g < k) : j.toNatClampNeg + m.toNatClampNeg ≤ 200 ∧ i.toNatClampNeg + m.toNatClampNeg ≤ 200 := by
  have hg2 : g < nn R 2 := Nat.lt_of_lt_of_le hg h.1
  obtain ⟨ii, jj, mm, rfl, rfl, rfl, a1, a2, a3, a4⟩ := agn_0 hR.1 hR.2.1 hg2 hg2 (h.2 g hg)
  rw [nI_clamp (by omega), nI_clamp (by omega), nI_clamp (by omega)]
  omega
theorem cps_out (hR : WF R) {t : Nat} (ht : t < 1426 ∨ 9426 ≤ t) : ∀ k, cok R i j m k → cpsF R i.toNatClampNeg j.toNatClampNeg m.toNatClampNeg k t = R t
  | 0, _ => rfl
  | k + 1, h => by
    have n2 := hR.1.2.2.1.2
    have b := cok_b hR h (Nat.lt_succ_self k)
    have h1 := h.1
    show cpR _ _ _ _ t = R t
    rw [cp_out (by omega) ht]
    exact cps_out hR ht k ⟨by omega, fun g hg => h.2 g (by omega)⟩
theorem cps_nn (hR : WF R) {t : Nat} (ht : t < 1426 ∨ 9426 ≤ t) (h : cok R i j m k) : nn (cpsF R i.toNatClampNeg j.toNatClampNeg m.toNatClampNeg k) t = nn R t := by
  unfold nn
  rw [cps_out hR ht k h]
theorem cps_wdn (hR : WF R) (h : cok R i j m k) : WDn (cpsF R i.toNatClampNeg j.toNatClampNeg m.toNatClampNeg k) := by
  have w := wdn_of hR
  have n2 := hR.1.2.2.1.2
  refine ⟨?_, fun g hg => ?_, fun x hx => ?_⟩
  · unfold WN
    rw [cps_out hR (by omega) k h, cps_out hR (by omega) k h, cps_out hR (by omega) k h, cps_out hR (by omega) k h, cps_out hR (by omega) k h, cps_nn hR (by omega) h, cps_nn hR (by omega) h, cps_nn hR (by omega) h, cps_nn hR (by omega) h, cps_nn hR (by omega) h]
    exact hR.1
  · rw [cps_nn hR (by omega) h] at hg
    rw [cps_out hR (by omega) k h, cps_nn hR (by omega) h]
    exact hR.2.1 g hg
  · rw [cps_nn hR (by omega) h] at hx
    rw [cps_nn hR (by omega) h, cps_nn hR (by omega) h]
    exact w.2.2 x hx
theorem cps_agn (hR : WF R) (h : cok R i j m k) (hg : g < nn R 2) : agn (cpsF R i.toNatClampNeg j.toNatClampNeg m.toNatClampNeg k) g i g j m = agn R g i g j m := by
  have n2 := hR.1.2.2.1.2
  unfold agn mis okc
  rw [cps_out hR (by omega) k h, cps_nn hR (by omega) h]
theorem cok_s (h : cok R i j m k) (hk : k < nn R 2) (h0 : agn R k i k j m = 0) : cok R i j m (k + 1) := ⟨hk, fun g hg => by
  by_cases e : g = k
  · rw [e]
    exact h0
  · exact h.2 g (by omega)⟩
theorem mcps_loop (hNf : 15642 < N) (hK : KS sh z) (hR : WF R) : ∀ (n k fu : Nat) (d : Dt), k + n = nn R 2 → n + 1 < fu → cok R i j m k → MFR z d0 d → RI d z (cpsF R i.toNatClampNeg j.toNatClampNeg m.toNatClampNeg k) (if k = 0 then K else R) (if k = 0 then u else true) → Rn (f_X12_copies_6 N sh fu (z + 242) i j m (nI k) 0 d) (RO z R K u (cpo R i j m (cpk R i j m n k)) d0)
  | n, k, fu, d, hk, hf, hc, hM, hI => by
    obtain ⟨fu, rfl⟩ : ∃ q, fu = q + 1 := ⟨fu - 1, by omega⟩
    have n2 := hR.1.2.2.1
    have e2 : cpsF R i.toNatClampNeg j.toNatClampNeg m.toNatClampNeg k 2 = nI (nn R 2) := (cps_out hR (by omega) k hc).trans n2.1
    have fin : ∀ (v : Int32), Rn (f_X12_copies_66 N sh (z + 242) (nI k) v d) (RO z R K u (cpo R i j m k) d0) := fun v => by
      unfold f_X12_copies_66
      refine rn_bind (m_finds hK) (fun d1 hd => ?_)
      refine r_pI hK (i := 242) (c := 12) rfl (rn_some ⟨rfl, (hM.tr hd.mfr).tr (MFR.wI (by decide) (by decide)), ?_⟩)
      have r := ri_rg (ri_rg hI hd) (RG.w242 (k := 3) (v := v) (Or.inl rfl))
      unfold cpo
      by_cases h0 : k = 0
      · subst h0
        rw [if_pos rfl, if_pos rfl] at r
        exact r
      · rw [if_neg h0, if_neg h0] at r
        simp only [if_neg h0]
        exact r
    show Rn (g_X12_copies_6 N sh (f_X12_copies_6 N sh fu) (z + 242) i j m (nI k) 0 d) _
    unfold g_X12_copies_6
    refine rdg hK hI.1 2 rfl (by decide) ?_
    rw [e2]
    cases n with
    | zero =>
      refine rn_t (nI_le (by omega) (by omega)) ?_
      exact fin 0
    | succ n =>
      refine rn_f (nI_ge (by omega) (by omega)) ?_
      refine rn_f (fun q => q rfl) ?_
      have hk2 : k < nn R 2 := by omega
      have w := cps_wdn hR hc
      refine rn_eq (m_against hK w.1 w.2.1 hI.1 (by rw [cps_nn hR (by omega) hc]; exact hk2) (by rw [cps_nn hR (by omega) hc]; exact hk2)) ?_
      rw [cps_agn hR hc hk2]
      by_cases h0 : agn R k i k j m = 0
      · refine rn_f (fun q => q h0) ?_
        have ih := mcps_loop hNf hK hR n (k + 1) fu
        have eo : cpk R i j m (n + 1) k = cpk R i j m n (k + 1) := if_pos h0
        rw [eo, h0]
        have fin2 : ∀ d1, MFR z d0 d1 → RI d1 z (cpsF R i.toNatClampNeg j.toNatClampNeg m.toNatClampNeg k) R true → Rn (f_X12_copies_49 N sh (f_X12_copies_6 N sh fu) (z + 242) i j m (nI k) 0 d1) (RO z R K u (cpo R i j m (cpk R i j m n (k + 1))) d0) := fun d1 hM1 hI1 => by
          unfold f_X12_copies_49
          refine rn_bind (m_brings (by omega) hK w.1 w.2.1 hI1 (by rw [cps_nn hR (by omega) hc]; exact hk2) (by rw [cps_nn hR (by omega) hc]; exact hk2) (by rw [cps_agn hR hc hk2]; exact h0)) (fun d2 hd2 => ?_)
          rw [nI_1]
          refine ih d2 (by omega) (by omega) (cok_s hc hk2 h0) (hM1.tr hd2.1) ?_
          rw [if_neg (Nat.succ_ne_zero k), if_neg (Nat.succ_ne_zero k)]
          exact hd2.2
        by_cases hk0 : k = 0
        · subst hk0
          rw [if_pos rfl, if_pos rfl] at hI
          refine rn_f (fun q => q rfl) ?_
          refine rn_bind (ri_keeps hI hK hNf) (fun d1 hd => ?_)
          exact fin2 d1 (hM.tr hd.2) hd.1
        · rw [if_neg hk0, if_neg hk0] at hI
          refine rn_t (nI_ne0 (by omega) (by omega)) ?_
          exact fin2 d hM hI
      · refine rn_t h0 ?_
        have eo : cpk R i j m (n + 1) k = k := if_neg h0
        rw [eo]
        obtain ⟨fu, rfl⟩ : ∃ q, fu = q + 1 := ⟨fu - 1, by omega⟩
        show Rn (g_X12_copies_6 N sh (f_X12_copies_6 N sh fu) (z + 242) i j m (nI k) (agn R k i k j m) d) _
        unfold g_X12_copies_6
        refine rdg hK hI.1 2 rfl (by decide) ?_
        rw [e2]
        refine rn_f (nI_ge (by omega) (by omega)) ?_
        refine rn_t h0 ?_
        exact fin _
theorem m_copies (hNf : 15642 < N) (hK : KS sh z) (h : RI d z R K u) (hR : WF R) : Rn (f_X12_copies N sh (z + 242) i j m d) (RO z R K u (sp_copies R i j m) d) := by
  have n2 := hR.1.2.2.1.2
  unfold f_X12_copies
  refine rn_t (ks_o hK 242 12 rfl) ?_
  exact mcps_loop hNf hK hR (nn R 2) 0 N d (by omega) (by omega) ⟨Nat.zero_le _, fun g hg => absurd hg (Nat.not_lt_zero g)⟩ MFR.rf h
/-- the class behind k gauges -/
def CPI (s0 : AS) (z : Nat) (R K : Nat → Int32) (u : Bool) (c : Nat) (i j m : Int32) (k : Nat) (s : AS) : Prop := (k = 0 ∧ s = s0 ∧ ∃ ow y, CI s z ow R K u y c) ∨ (k ≠ 0 ∧ RFR z s0 s ∧ ∃ ow yy q, CJ s z ow R yy c (pot q) ∧ BK s.1 s.2 z ow 3 (cpsF R i.toNatClampNeg j.toNatClampNeg m.toNatClampNeg k) q ∧ PB s.1 s.2 z ow (cpsF R i.toNatClampNeg j.toNatClampNeg m.toNatClampNeg k))
theorem kcps_loop (hNf : 300 ≤ N) (hR : WF R) (hKF : WF K) : ∀ (n k fu : Nat) (s : AS), k + n = nn R 2 → n < fu → cok R i j m k → CPI s0 z R K u c i j m k s → Rn (f_X11_copies_6 N fu z i j m (nI k) (nI k) s) (KO z R K u c (cpo R i j m (cpk R i j m n k)) s0)
  | n, k, fu, s, hk, hf, hc, hI => by
    obtain ⟨fu, rfl⟩ : ∃ q, fu = q + 1 := ⟨fu - 1, by omega⟩
    have n2 := hR.1.2.2.1.2
    obtain ⟨ow, q, hK, hB⟩ : ∃ ow q, KS s.1 z ∧ BK s.1 s.2 z ow 3 (cpsF R i.toNatClampNeg j.toNatClampNeg m.toNatClampNeg k) q := by
      rcases hI with ⟨rfl, rfl, ow, y, h⟩ | ⟨_, _, ow, yy, q, h, hb, _⟩
      · exact ⟨ow, y.1, h.1, h.2.2.1⟩
      · exact ⟨ow, q, h.1, hb⟩
    have fin : ∀ d', LG z s.2 d' → KO z R K u c (cpo R i j m k) s0 (nI k, (s.1, d')) := fun d' hl => by
      rcases hI with ⟨h0, rfl, ow, y, h⟩ | ⟨h0, hf1, ow, yy, q, h, hb, hp⟩
      · have q3 := ci_lg h hl
        refine ⟨rfl, q3.2, ow, y, ?_⟩
        unfold cpo
        simp only [if_pos h0]
        exact q3.1
      · have q3 := ci_lg (cj_ci h hb hp) hl
        refine ⟨rfl, hf1.tr q3.2, ow, (q, yy), ?_⟩
        unfold cpo
        simp only [if_neg h0]
        exact q3.1
    show Rn (g_X11_copies_6 N (f_X11_copies_6 N fu) z i j m (nI k) (nI k) s) _
    unfold g_X11_copies_6
    refine r_now hK 2 15 (by decide) ?_
    refine r_gI hK (i := 15) (c := 8) rfl ?_
    rw [hB.2.2.1.1, cps_nn hR (by omega) hc]
    cases n with
    | zero =>
      refine rn_t (nI_le (by omega) (by omega)) ?_
      unfold f_X11_copies_84
      refine rn_bind (k_answer hK) (fun r hr => rn_some ?_)
      rw [hr.1]
      exact fin _ hr.2
    | succ n =>
      refine rn_f (nI_ge (by omega) (by omega)) ?_
      have hk2 : k < nn R 2 := by omega
      have w := cps_wdn hR hc
      have hk3 : k < nn (cpsF R i.toNatClampNeg j.toNatClampNeg m.toNatClampNeg k) 2 := by rw [cps_nn hR (by omega) hc]; exact hk2
      refine r_gP hK 0 11 1 3 rfl (by decide) ?_
      refine rn_eq (k_whyUncopied hK w.1 w.2.1 hB hk3 hk3) ?_
      rw [cps_agn hR hc hk2]
      by_cases h0 : agn R k i k j m = 0
      · refine rn_t h0 ?_
        have ih := kcps_loop hNf hR hKF n (k + 1) fu
        have eo : cpk R i j m (n + 1) k = cpk R i j m n (k + 1) := if_pos h0
        rw [eo]
        have fin2 : ∀ s1 ow yy q, RFR z s0 s1 → CJ s1 z ow R yy c (pot q) → BK s1.1 s1.2 z ow 3 (cpsF R i.toNatClampNeg j.toNatClampNeg m.toNatClampNeg k) q → PB s1.1 s1.2 z ow (cpsF R i.toNatClampNeg j.toNatClampNeg m.toNatClampNeg k) → Rn (f_X11_copies_61 N (f_X11_copies_6 N fu) z i j m (nI k) (nI k) s1) (KO z R K u c (cpo R i j m (cpk R i j m n (k + 1))) s0) := fun s1 ow yy q hf1 hJ hb hp => by
          unfold f_X11_copies_61
          refine r_gP hJ.1 0 11 1 3 rfl (by decide) ?_
          refine rn_bind (k_copyR hJ.1 hJ.2.1 w hb hk3 hk3 (by rw [cps_agn hR hc hk2]; exact h0)) (fun d1 hd => ?_)
          rw [nI_1]
          have e1 : ES (IX z ow 3 3) s1 ow (s1.1, d1) ow := FD.es (sh := s1.1) (d := s1.2) hd.1
          have j1 := cj_es (c' := c) (P' := pot q) hJ e1 (by omega) (Nat.le_refl _) (Nat.le_refl _)
          have hc2 := cok_s hc hk2 h0
          have b := cok_b hR hc2 (Nat.lt_succ_self k)
          have hp1 := pb_ix hp hJ.1 hJ.2.1 e1 (by omega) (by omega)
          refine ih (s1.1, d1) (by omega) (by omega) hc2 (Or.inr ⟨Nat.succ_ne_zero k, hf1.tr j1.2, ow, yy, q, j1.1, hd.2, ?_⟩)
          exact pb_congr hp1 (cp_out (by omega) (by omega)) (fun x hx => cp_out (by omega) (by omega))
        rcases hI with ⟨hk0, rfl, ow, y, h⟩ | ⟨hk0, hf1, ow, yy, q, h, hb, hp⟩
        · subst hk0
          refine rn_f (fun q => q rfl) ?_
          refine rn_bind (ci_change (by omega) h hR.1 hR.2.1 hKF.1) (fun s1 hs => ?_)
          obtain ⟨f1, g1, g2, g3, ow1, y1, -, c1⟩ := hs
          exact fin2 s1 ow1 y1.2 y1.1 f1 (cj_of c1 g1 g2 g3) c1.2.2.1 c1.2.2.2.2.2.1
        · refine rn_t (nI_ne0 (by omega) (by omega)) ?_
          exact fin2 s ow yy q hf1 h hb hp
      · refine rn_f h0 ?_
        have eo : cpk R i j m (n + 1) k = k := if_neg h0
        rw [eo]
        unfold f_X11_copies_42
        refine rn_bind (k_refuse hK) (fun r hr => rn_some ?_)
        exact fin _ hr.2
theorem k_copies (hNf : 300 ≤ N) (h : CI s z ow R K u y c) (hR : WF R) (hKF : WF K) : Rn (f_X11_copies N z i j m s) (KO z R K u c (sp_copies R i j m) s) := by
  have n2 := hR.1.2.2.1.2
  unfold f_X11_copies
  refine rn_t (ks_o h.1 0 11 rfl) ?_
  exact kcps_loop hNf hR hKF (nn R 2) 0 N s (by omega) (by omega) ⟨Nat.zero_le _, fun g hg => absurd hg (Nat.not_lt_zero g)⟩ (Or.inl ⟨rfl, rfl, ow, y, h⟩)
end CPS
/-! 9j.read.lean.txt -/
/-! readings as floats: read(), what a gauge tells -/
def bm (a : UInt32) (K : Nat) : Prop := a.toNat % 2 ^ 31 < K * 2 ^ 23
theorem bm_some {a : UInt32} {K : Nat} (h : bm a K) (hK : K ≤ 255) : o_n32 a = some a := if_pos (ff_n32 ((FP.Core.ne_nan32 a).mpr (by unfold bm at h; omega)))
theorem bm_mono {a : UInt32} {K L : Nat} (h : bm a K) (hK : K ≤ L) : bm a L := Nat.lt_of_lt_of_le h (Nat.mul_le_mul_right _ hK)
theorem bm_i2f (v : Int32) : bm (FP.i2f v) 160 := FP.Core.i2f_mag v
theorem bm_div {a b : UInt32} (h : bm a 160) (hb : b = 1090519040 ∨ b = 1092616192) : bm (FP.fdiv a b) 158 := by
  rcases hb with rfl | rfl
  · exact FP.Core.fdiv_mag (K := 160) (L := 130) h (by decide) (by decide) (by decide) (by decide)
  · exact FP.Core.fdiv_mag (K := 160) (L := 130) h (by decide) (by decide) (by decide) (by decide)
theorem bm_mul10 {a : UInt32} {K : Nat} (h : bm a K) (hK : K ≤ 255) : bm (FP.fmul a 1092616192) (K + 131 - 129 + 3) := FP.Core.fmul_mag (Ka := K) (Kb := 131) h (by decide) hK (by decide)
def rx (R : Nat → Int32) (g h : Nat) : UInt32 := FP.fdiv (FP.i2f (R (1426 + 200 * g + h))) (if R (1366 + 3 * g + 1) = 0 then 1090519040 else 1092616192)
/-- what a gauge tells, if it tells -/
def gx (R : Nat → Int32) (g h : Nat) : UInt32 := if 0 ≤ (Op.cmpValue (FP.fcmp (rx R g h) FP.fconst0) .g) then rx R g h else FP.fconst0
def cap (w : Int32) : Int32 := if w < 100000 then w else 100000
def brs (R : Nat → Int32) (g : Nat) (h : Int32) : Int32 := if R (1366 + 3 * g + 2) = -1 then -4 else if h < 0 ∨ R (1366 + 3 * g + 2) ≤ h then -5 else 0
def tnt (R : Nat → Int32) (g h : Nat) : Int32 := if R (5426 + 200 * g + h) = 0 then cap (FP.f2i (FP.fmul (gx R g h) 1092616192)) else -1
section RDG
variable {s s' : AS} {sh : Sh} {d d' d0 : Dt} {z : Nat} {ow ow' : Nat → Nat} {R R' K : Nat → Int32} {u : Bool} {y : YL} {c N g h : Nat} {q q' : BL}
theorem rx_bm : bm (rx R g h) 158 := by
  unfold rx
  refine bm_div (bm_i2f _) ?_
  by_cases e : R (1366 + 3 * g + 1) = 0
  · exact Or.inl (if_pos e)
  · exact Or.inr (if_neg e)
theorem gx_bm : bm (gx R g h) 158 := by
  unfold gx
  split
  · exact rx_bm
  · show (0 : Nat) % 2 ^ 31 < 158 * 2 ^ 23
    decide
theorem c0_ge : (0 : Int32) ≤ (Op.cmpValue (FP.fcmp FP.fconst0 FP.fconst0) .g) := by decide +kernel
theorem cm_lt : ¬ (0 : Int32) ≤ (Op.cmpValue (FP.fcmp 3212836864 FP.fconst0) .g) := by decide +kernel
theorem gx_ge : (0 : Int32) ≤ (Op.cmpValue (FP.fcmp (gx R g h) FP.fconst0) .g) := by
  by_cases e : 0 ≤ (Op.cmpValue (FP.fcmp (rx R g h) FP.fconst0) .g)
  · rw [show gx R g h = rx R g h from if_pos e]
    exact e
  · rw [show gx R g h = FP.fconst0 from if_neg e]
    exact c0_ge
theorem m_x (hK : KS sh z) (hA : AG (d.1 (z + 243)) R) (hg : g < 20) (hh : h < 200) : f_X12_x N sh (z + 242) (nI g) (nI h) d = some (gx R g h) := by
  refine rn_val ?_
  unfold f_X12_x f_X12_x_45 f_X12_x_60
  refine rn_t (ks_o hK 242 12 rfl) ?_
  refine rdg hK hA (1426 + 200 * g + h) (ix_rd 1426 g h) (by omega) ?_
  refine rdga hK hA 1 hg (by decide) rfl ?_
  have b := rx_bm (R := R) (g := g) (h := h)
  have fin : Rn (if 0 ≤ (Op.cmpValue (FP.fcmp (rx R g h) FP.fconst0) .g) then some (rx R g h) else some FP.fconst0) (fun r => r = gx R g h) := by
    unfold gx
    by_cases e : 0 ≤ (Op.cmpValue (FP.fcmp (rx R g h) FP.fconst0) .g)
    · rw [if_pos e, if_pos e]
      exact rn_some rfl
    · rw [if_neg e, if_neg e]
      exact rn_some rfl
  by_cases e : R (1366 + 3 * g + 1) = 0
  · refine rn_f (fun q => q e) ?_
    have er : rx R g h = FP.fdiv (FP.i2f (R (1426 + 200 * g + h))) 1090519040 := by unfold rx; rw [if_pos e]
    rw [← er]
    exact rn_eq (bm_some b (by decide)) fin
  · refine rn_t e ?_
    have er : rx R g h = FP.fdiv (FP.i2f (R (1426 + 200 * g + h))) 1092616192 := by unfold rx; rw [if_neg e]
    rw [← er]
    exact rn_eq (bm_some b (by decide)) fin
theorem m_tells (hK : KS sh z) (hA : AG (d.1 (z + 243)) R) (hg : g < 20) (hh : h < 200) : f_X12_tells N sh (z + 242) (nI g) (nI h) d = some (tnt R g h) := by
  refine rn_val ?_
  unfold f_X12_tells f_X12_tells_36 tnt
  refine rn_t (ks_o hK 242 12 rfl) ?_
  refine rdg hK hA (5426 + 200 * g + h) (ix_rd 5426 g h) (by omega) ?_
  by_cases e : R (5426 + 200 * g + h) = 0
  · refine rn_t e ?_
    rw [if_pos e]
    refine rn_eq (m_x hK hA hg hh) ?_
    refine rn_eq (bm_some (bm_mul10 gx_bm (by decide)) (by decide)) ?_
    exact rn_eq (m_whole hK) (rn_some rfl)
  · refine rn_f e ?_
    rw [if_neg e]
    exact rn_some rfl
theorem m_bars {x : Int32} (hK : KS sh z) (hA : AG (d.1 (z + 243)) R) (hN : WN R) (hG : WG R) (hg : g < nn R 2) : f_X12_bars N sh (z + 242) (nI g) x d = some (brs R g x) := by
  have n2 := hN.2.2.1.2
  have g1 := hG g hg
  refine rn_val ?_
  unfold f_X12_bars f_X12_bars_39 brs
  refine rn_t (ks_o hK 242 12 rfl) ?_
  refine rdga hK hA 2 (by omega) (by decide) rfl ?_
  by_cases h1 : R (1366 + 3 * g + 2) = -1
  · rw [if_pos h1]
    exact rn_f (by rw [h1]; decide) (rn_some rfl)
  have e1 := g1.1.resolve_left h1
  rw [if_neg h1, e1]
  refine rn_t (nI_pos' (by omega)) ?_
  refine rn_eq m_in ?_
  simp only [lt_pred (show nn R (1366 + 3 * g + 2) < 2 ^ 31 by omega)]
  by_cases h2 : x < 0 ∨ nI (nn R (1366 + 3 * g + 2)) ≤ x
  · rw [if_pos h2, if_pos h2]
    exact rn_t rfl (rn_some rfl)
  · rw [if_neg h2, if_neg h2]
    exact rn_f (by decide) (rn_some rfl)
theorem brs_0 {x : Int32} (hN : WN R) (hG : WG R) (hg : g < nn R 2) (h0 : brs R g x = 0) : ∃ hh, hh < nn R (1366 + 3 * g + 2) ∧ x = nI hh ∧ hh < 200 := by
  have g1 := hG g hg
  unfold brs at h0
  by_cases h1 : R (1366 + 3 * g + 2) = -1
  · rw [if_pos h1] at h0
    exact absurd h0 (by decide)
  rw [if_neg h1, g1.1.resolve_left h1] at h0
  by_cases h2 : x < 0 ∨ nI (nn R (1366 + 3 * g + 2)) ≤ x
  · rw [if_pos h2] at h0
    exact absurd h0 (by decide)
  · obtain ⟨hh, b1, b2, -⟩ := st_of (by omega) h2
    exact ⟨hh, b1, b2, by omega⟩
theorem m_read {x x2 : Int32} (hK : KS sh z) (hI : RI d z R K u) (hR : WF R) : Rn (f_X12_read N sh (z + 242) x x2 d) (RR z R K u d) := by
  have n2 := hR.1.2.2.1.2
  unfold f_X12_read f_X12_read_44
  refine rn_t (ks_o hK 242 12 rfl) ?_
  refine rn_eq (ri_isGauge hK hI hR.1) ?_
  refine rn_ite (fun h1 => ?_) (fun h1 => rr_refuses hK hI MFR.rf)
  obtain ⟨g, hg, rfl, -⟩ := st_of (by omega) (fun q => h1 (ite01.mpr q))
  refine rn_eq (m_bars hK hI.1 hR.1 hR.2.1 hg) ?_
  refine rn_ite (fun h2 => ?_) (fun h2 => rr_refuses hK hI MFR.rf)
  obtain ⟨hh, b1, rfl, b3⟩ := brs_0 hR.1 hR.2.1 hg h2
  refine rn_eq (m_tells hK hI.1 (by omega) b3) ?_
  exact rr_says hK hI MFR.rf
/-! the class -/
theorem k_whyUnread {x : Int32} (hK : KS sh z) (hG : WG R) (hB : BK sh d z ow 3 R q) (hg : g < nn R 2) : f_X1_whyUnread N sh (z + 3) (nI g) x d = some (brs R g x) := by
  have g1 := hG g hg
  refine rn_val ?_
  unfold f_X1_whyUnread f_X1_whyUnread_28 f_X1_whyUnread_34 brs
  refine rn_t (ks_o hK 3 1 rfl) ?_
  refine rn_eq (k_isMissing (b := 3) (Or.inl rfl) hK hB.bt.1 hg) ?_
  by_cases h1 : R (1366 + 3 * g + 2) = -1
  · rw [if_pos h1, if_pos h1]
    exact rn_f (by decide) (rn_some rfl)
  rw [if_neg h1, if_neg h1]
  refine rn_t rfl ?_
  by_cases h2 : x < 0
  · rw [if_pos (Or.inl h2)]
    exact rn_t h2 (rn_some rfl)
  refine rn_f h2 ?_
  refine r_gP hK 3 1 2 15 rfl (by decide) ?_
  refine rn_eq (tb_get (o := 15) (nc := 3) (c := 2) hK (by decide) hB.2.2.1 rfl hg rfl (by decide)) ?_
  have ev : vG R 2 g = R (1366 + 3 * g + 2) := rfl
  rw [ev]
  by_cases h3 : R (1366 + 3 * g + 2) ≤ x
  · rw [if_pos (Or.inr h3)]
    exact rn_f (Int32.not_lt.mpr h3) (rn_some rfl)
  · rw [show (if x < 0 ∨ R (1366 + 3 * g + 2) ≤ x then (-5 : Int32) else 0) = 0 from if_neg (fun q => q.elim h2 h3)]
    exact rn_t (Int32.not_le.mp h3) (rn_some rfl)
theorem k_height (hK : KS sh z) (hN : WN R) (hG : WG R) (hC : WC R) (hB : BK sh d z ow 3 R q) (hg : g < nn R 2) (hh : h < nn R (1366 + 3 * g + 2)) : f_X1_height N sh (z + 3) (nI g) (nI h) d = some (if R (5426 + 200 * g + h) = 0 then gx R g h else 3212836864) := by
  have n2 := hN.2.2.1.2
  have g1 := hG g hg
  have hL := hB.bt.1.2.2.2.2.2.1
  obtain ⟨a, z1, z2, z3, z4, z5, z6⟩ := hB.bt.2
  have hin : inC R (200 * g + h) := ⟨g, h, hg, hh, rfl⟩
  obtain ⟨l1, l2⟩ := z6 _ hin
  have hm := hC.2 _ hin
  have e5 : 5426 + (200 * g + h) = 5426 + 200 * g + h := by omega
  have e1 : nI g * (200 : Int32) + nI h = nI (200 * g + h) := by
    rw [show (200 : Int32) = nI 200 from rfl, pk_mul, nI_add, Nat.mul_comm g 200]
  refine rn_val ?_
  unfold f_X1_height f_X1_height_37 f_X1_height_71 f_X1_height_86
  refine rn_t (ks_o hK 3 1 rfl) ?_
  refine rn_eq (v := nI (200 * g + h)) ?_ ?_
  · refine rn_val ?_
    unfold f_X1_cellAt
    refine rn_t (ks_o hK 3 1 rfl) ?_
    refine r_gP hK 3 1 2 15 rfl (by decide) ?_
    refine rn_eq (tb_has (o := 15) (nc := 3) hK (by decide) hB.2.2.1) ?_
    refine rn_f (fun q => absurd (ite01.mp q) (fun q => q.elim (nI_pos (by omega)) (nI_ge hg (by omega)))) ?_
    refine rn_f (nI_pos (by omega)) ?_
    refine rn_f (nI_ge (b := 200) (by omega) (by decide)) ?_
    unfold f_X1_cellAt_27
    refine rn_f (by decide) ?_
    unfold f_X1_cellAt_43
    refine r_gQ hK a z1 (i := 3) (c := 1) rfl ?_
    refine rn_eq (q_len ⟨z3, z4⟩ (by decide)) ?_
    rw [e1]
    refine rn_f (nI_ge (by omega) (by omega)) ?_
    exact rn_some rfl
  refine rn_f (nI_pos (by omega)) ?_
  refine r_gQ hK a z1 (i := 3) (c := 1) rfl ?_
  refine rn_eq (q_aJ ⟨z3, z4⟩ (200 * g + h) rfl (by omega) (by omega)) ?_
  rw [l2]
  have v1 : vC R (200 * g + h) = if R (5426 + (200 * g + h)) = 1 then 1099511627776 else if R (5426 + (200 * g + h)) = 2 then 2199023255552 else (R (1426 + (200 * g + h))).toInt64 := rfl
  rcases hm with e | e | e
  · rw [e5] at e
    have ev : vC R (200 * g + h) = (R (1426 + 200 * g + h)).toInt64 := by
      rw [v1, e5, e, show 1426 + (200 * g + h) = 1426 + 200 * g + h by omega]
      rfl
    have b1 := Int32.toInt_lt (R (1426 + 200 * g + h))
    have nb : ∀ w : Int64, 2 ^ 32 ≤ w.toInt → ¬ lg_cmp (vC R (200 * g + h)) w = 0 := fun w hw h9 => by
      have := cmp0.mp h9
      rw [ev] at this
      have h8 := congrArg Int64.toInt this
      rw [Int32.toInt_toInt64] at h8
      omega
    rw [if_pos e]
    refine rn_f (nb _ (by decide)) ?_
    refine r_gQ hK a z1 (i := 3) (c := 1) rfl ?_
    refine rn_eq (q_aJ ⟨z3, z4⟩ (200 * g + h) rfl (by omega) (by omega)) ?_
    rw [l2]
    refine rn_t (nb _ (by decide)) ?_
    refine r_gQ hK a z1 (i := 3) (c := 1) rfl ?_
    refine rn_eq (q_aJ ⟨z3, z4⟩ (200 * g + h) rfl (by omega) (by omega)) ?_
    rw [l2, ev]
    refine rn_eq (k_isOfShorts hC hK hB.2.2.1 hg) ?_
    have b := rx_bm (R := R) (g := g) (h := h)
    have t32 : (R (1426 + 200 * g + h)).toInt64.toInt32 = R (1426 + 200 * g + h) := Int32.toInt32_toInt64 _
    rw [t32]
    have fin : Rn (if 0 ≤ (Op.cmpValue (FP.fcmp (rx R g h) FP.fconst0) .g) then some (rx R g h) else some FP.fconst0) (fun r => r = gx R g h) := by
      unfold gx
      by_cases e : 0 ≤ (Op.cmpValue (FP.fcmp (rx R g h) FP.fconst0) .g)
      · rw [if_pos e, if_pos e]
        exact rn_some rfl
      · rw [if_neg e, if_neg e]
        exact rn_some rfl
    by_cases e2 : R (1366 + 3 * g + 1) = 0
    · refine rn_t e2 ?_
      have er : rx R g h = FP.fdiv (FP.i2f (R (1426 + 200 * g + h))) 1090519040 := by unfold rx; rw [if_pos e2]
      rw [← er]
      exact rn_eq (bm_some b (by decide)) fin
    · refine rn_f e2 ?_
      have er : rx R g h = FP.fdiv (FP.i2f (R (1426 + 200 * g + h))) 1092616192 := by unfold rx; rw [if_neg e2]
      rw [← er]
      exact rn_eq (bm_some b (by decide)) fin
  · rw [e5] at e
    rw [v1, e5, e, if_pos rfl]
    rw [show (if (1 : Int32) = 0 then gx R g h else (3212836864 : UInt32)) = 3212836864 from if_neg (by decide)]
    exact rn_t (cmp0.mpr rfl) (rn_some rfl)
  · rw [e5] at e
    rw [v1, e5, e, if_neg (show ¬ (2 : Int32) = 1 by decide), if_pos rfl]
    rw [show (if (2 : Int32) = 0 then gx R g h else (3212836864 : UInt32)) = 3212836864 from if_neg (by decide)]
    refine rn_f (fun q => absurd (cmp0.mp q) (by decide)) ?_
    refine r_gQ hK a z1 (i := 3) (c := 1) rfl ?_
    refine rn_eq (q_aJ ⟨z3, z4⟩ (200 * g + h) rfl (by omega) (by omega)) ?_
    rw [l2, v1, e5, e, if_neg (show ¬ (2 : Int32) = 1 by decide), if_pos rfl]
    exact rn_f (fun q => q (cmp0.mpr rfl)) (rn_some rfl)
theorem k_tenths (hK : KS sh z) (hN : WN R) (hG : WG R) (hC : WC R) (hB : BK sh d z ow 3 R q) (hg : g < nn R 2) (hh : h < nn R (1366 + 3 * g + 2)) : f_X1_tenths N sh (z + 3) (nI g) (nI h) d = some (tnt R g h) := by
  refine rn_val ?_
  unfold f_X1_tenths f_X1_tenths_27 tnt
  refine rn_t (ks_o hK 3 1 rfl) ?_
  refine rn_eq (k_height hK hN hG hC hB hg hh) ?_
  by_cases e : R (5426 + 200 * g + h) = 0
  · rw [if_pos e, if_pos e]
    refine rn_t gx_ge ?_
    exact rn_eq (bm_some (bm_mul10 gx_bm (by decide)) (by decide)) (rn_some rfl)
  · rw [if_neg e, if_neg e]
    exact rn_f cm_lt (rn_some rfl)
theorem k_read {x x2 : Int32} (hC : CI s z ow R K u y c) (hR : WF R) : Rn (f_X11_read N s.1 z x x2 s.2) (KR z R K u c s) := by
  have hK := hC.1
  have n2 := hR.1.2.2.1.2
  have hB : BK s.1 s.2 z ow 3 R y.1 := hC.2.2.1
  unfold f_X11_read f_X11_read_56
  refine rn_t (ks_o hK 0 11 rfl) ?_
  refine r_now hK 2 15 (by decide) ?_
  refine rn_eq (tb_has (o := 15) (nc := 3) hK (by decide) hB.2.2.1) ?_
  refine rn_ite (fun h1 => ?_) (fun h1 => kr_refuses hC)
  obtain ⟨g, hg, rfl, -⟩ := st_of (by omega) (fun q => h1 (ite01.mpr q))
  refine r_gP hK 0 11 1 3 rfl (by decide) ?_
  refine rn_eq (k_whyUnread hK hR.2.1 hB hg) ?_
  refine rn_ite (fun h2 => ?_) (fun h2 => kr_refuses hC)
  obtain ⟨hh, b1, rfl, b3⟩ := brs_0 hR.1 hR.2.1 hg h2
  refine r_gP hK 0 11 1 3 rfl (by decide) ?_
  refine rn_eq (k_tenths hK hR.1 hR.2.1 hR.2.2.2.1 hB hg b1) ?_
  exact kr_says hC
end RDG
/-! 9k.snow.lean.txt -/
/-! snow(): what falls, and the reference -/
abbrev tl (R : Nat → Int32) (hh g : Nat) : Prop := R (1366 + 3 * g + 2) ≠ -1 ∧ hh < nn R (1366 + 3 * g + 2) ∧ R (5426 + 200 * g + hh) = 0
def jt (R : Nat → Int32) (x a b : Int32) (t : Nat) : Prop := R (16 + 9 * t + 4) = 0 ∧ ((R (16 + 9 * t + 7) = x ∧ (R (16 + 9 * t + 8) = a ∨ R (16 + 9 * t + 8) = b)) ∨ (R (16 + 9 * t + 8) = x ∧ (R (16 + 9 * t + 7) = a ∨ R (16 + 9 * t + 7) = b)))
def jn (R : Nat → Int32) (x a b : Int32) : Prop := ∃ t, t < nn R 1 ∧ jt R x a b t
noncomputable def kn (R : Nat → Int32) (g t : Nat) : Nat := if R (1366 + 3 * g) = R (16 + 9 * t + 7) ∨ R (1366 + 3 * g) = R (16 + 9 * t + 8) then 2 else @ite _ (jn R (R (1366 + 3 * g)) (R (16 + 9 * t + 7)) (R (16 + 9 * t + 8))) (Classical.propDecidable _) 1 0
def wt (n : Nat) : UInt32 := FP.i2f (nI n)
noncomputable def snA (R : Nat → Int32) (hh t : Nat) : Nat → UInt32 × Nat
  | 0 => (FP.fconst0, 0)
  | g + 1 => if tl R hh g then (if kn R g t = 0 then snA R hh t g else (FP.fadd (snA R hh t g).1 (FP.fmul (gx R g hh) (wt (kn R g t))), (snA R hh t g).2 + kn R g t)) else snA R hh t g
noncomputable def snD (R : Nat → Int32) (hh t : Nat) : Int32 := cap (R (16 + 9 * t + 0) + cap (FP.f2i (FP.fmul (FP.fdiv (snA R hh t (nn R 2)).1 (wt (snA R hh t (nn R 2)).2)) 1092616192)))
noncomputable def snF (R : Nat → Int32) (hh : Nat) : Nat → Nat → Int32
  | 0 => R
  | t + 1 => if (snA R hh t (nn R 2)).2 = 0 then va_up (snF R hh t) (16 + 9 * t + 1) 1 else va_up (va_up (snF R hh t) (16 + 9 * t + 1) 0) (16 + 9 * t + 0) (snD R hh t)
noncomputable def snC (R : Nat → Int32) (hh : Nat) : Nat → Nat
  | 0 => 0
  | t + 1 => snC R hh t + if (snA R hh t (nn R 2)).2 = 0 then 0 else 1
noncomputable def sp_snow (R : Nat → Int32) (x : Int32) : Int32 × Option (Nat → Int32) := if x < 0 ∨ 199 < x then (-2, none) else (nI (snC R x.toNatClampNeg (nn R 1)), some (snF R x.toNatClampNeg (nn R 1)))
section SNW
variable {s s' : AS} {sh : Sh} {d d' d0 : Dt} {z : Nat} {ow ow' : Nat → Nat} {R R' Rc K : Nat → Int32} {u : Bool} {y : YL} {c N g t hh : Nat} {q q' : BL}
theorem kn_le : kn R g t ≤ 2 := by
  unfold kn
  split
  · exact Nat.le_refl 2
  · split
    · decide
    · decide
theorem snA_n : ∀ g, (snA R hh t g).2 ≤ 2 * g
  | 0 => Nat.le_refl 0
  | g + 1 => by
    have ih := snA_n g
    have k2 := kn_le (R := R) (g := g) (t := t)
    show (if tl R hh g then (if kn R g t = 0 then snA R hh t g else (FP.fadd (snA R hh t g).1 (FP.fmul (gx R g hh) (wt (kn R g t))), (snA R hh t g).2 + kn R g t)) else snA R hh t g).2 ≤ 2 * (g + 1)
    split
    · split
      · omega
      · show (snA R hh t g).2 + kn R g t ≤ 2 * (g + 1)
        omega
    · omega
theorem wt_bm {n : Nat} (h : n = 1 ∨ n = 2) : bm (wt n) 129 := by
  rcases h with rfl | rfl
  · show (FP.i2f (nI 1)).toNat % 2 ^ 31 < 129 * 2 ^ 23
    decide +kernel
  · show (FP.i2f (nI 2)).toNat % 2 ^ 31 < 129 * 2 ^ 23
    decide +kernel
theorem xk_bm {n : Nat} (h : n = 1 ∨ n = 2) : bm (FP.fmul (gx R g hh) (wt n)) 161 := FP.Core.fmul_mag (Ka := 158) (Kb := 129) gx_bm (wt_bm h) (by decide) (by decide)
theorem snA_bm : ∀ g, g ≤ 20 → bm (snA R hh t g).1 (161 + 2 * g)
  | 0, _ => by
    show (0 : Nat) % 2 ^ 31 < _
    decide
  | g + 1, hg => by
    have ih := snA_bm g (by omega)
    have k2 := kn_le (R := R) (g := g) (t := t)
    show bm (if tl R hh g then (if kn R g t = 0 then snA R hh t g else (FP.fadd (snA R hh t g).1 (FP.fmul (gx R g hh) (wt (kn R g t))), (snA R hh t g).2 + kn R g t)) else snA R hh t g).1 (161 + 2 * (g + 1))
    split
    · split
      · exact bm_mono ih (by omega)
      · exact FP.Core.fadd_mag (K := 161 + 2 * g) ih (bm_mono (xk_bm (by omega)) (by omega)) (by omega)
    · exact bm_mono ih (by omega)
theorem wt_0 : wt 0 = FP.fconst0 := by decide +kernel
theorem wt_add {n k : Nat} (hn : n ≤ 40) (hk : k = 1 ∨ k = 2) : FP.fadd (wt n) (wt k) = wt (n + k) := by
  have h := List.all_eq_true.mp (show (List.range 41).all (fun n => (FP.fadd (wt n) (wt 1) == wt (n + 1)) && (FP.fadd (wt n) (wt 2) == wt (n + 2))) = true by decide +kernel) n (List.mem_range.mpr (by omega))
  rw [Bool.and_eq_true] at h
  rcases hk with rfl | rfl
  · exact eq_of_beq h.1
  · exact eq_of_beq h.2
theorem wt_cmp {n : Nat} (hn : n ≤ 40) : ((Op.cmpValue (FP.fcmp (wt n) FP.fconst0) .l) ≤ 0) ↔ n = 0 := by
  have h := List.all_eq_true.mp (show (List.range 41).all (fun n => decide (((Op.cmpValue (FP.fcmp (wt n) FP.fconst0) .l) ≤ 0) ↔ n = 0)) = true by decide +kernel) n (List.mem_range.mpr (by omega))
  exact of_decide_eq_true h
theorem wt_lo {n : Nat} (hn : n ≤ 40) (h0 : n ≠ 0) : 127 * 2 ^ 23 ≤ (wt n).toNat % 2 ^ 31 ∧ bm (wt n) 255 := by
  have h := List.all_eq_true.mp (show (List.range 41).all (fun n => decide (n ≠ 0 → 127 * 2 ^ 23 ≤ (wt n).toNat % 2 ^ 31 ∧ (wt n).toNat % 2 ^ 31 < 255 * 2 ^ 23)) = true by decide +kernel) n (List.mem_range.mpr (by omega))
  exact of_decide_eq_true h h0
theorem wt_some {n : Nat} (hn : n ≤ 42) : o_n32 (wt n) = some (wt n) := bm_some (bm_i2f _) (by decide)
theorem sw_bm {a : UInt32} {n : Nat} (h1 : bm a 201) (hn : n ≤ 40) (h0 : n ≠ 0) : bm (FP.fdiv a (wt n)) 202 := FP.Core.fdiv_mag (K := 201) (L := 127) h1 (wt_lo hn h0).1 (wt_lo hn h0).2 (by decide) (by decide)
/-- another R with the same map, the same gauges -/
def smp (R R' : Nat → Int32) : Prop := ∀ j, (∀ t, t < 150 → j ≠ 16 + 9 * t ∧ j ≠ 16 + 9 * t + 1) → R' j = R j
theorem smp.cn (h : smp R R') {j : Nat} (hj : ∀ t, t < 150 → j ≠ 16 + 9 * t ∧ j ≠ 16 + 9 * t + 1) : nn R' j = nn R j := by
  unfold nn
  rw [h j hj]
theorem smp.st (h : smp R R') {t k : Nat} (h2 : 2 ≤ k) (h9 : k < 9) : R' (16 + 9 * t + k) = R (16 + 9 * t + k) := h _ (fun t' _ => by omega)
theorem snF_out {j : Nat} (hj : ∀ t, t < 150 → j ≠ 16 + 9 * t ∧ j ≠ 16 + 9 * t + 1) : ∀ t, t ≤ 150 → snF R hh t j = R j
  | 0, _ => rfl
  | t + 1, ht => by
    have h := hj t (by omega)
    show (if (snA R hh t (nn R 2)).2 = 0 then va_up (snF R hh t) (16 + 9 * t + 1) 1 else va_up (va_up (snF R hh t) (16 + 9 * t + 1) 0) (16 + 9 * t) (snD R hh t)) j = R j
    split
    · rw [va_up_n h.2]
      exact snF_out hj t (by omega)
    · rw [va_up_n h.1, va_up_n h.2]
      exact snF_out hj t (by omega)
theorem snF_smp (ht : t ≤ 150) : smp R (snF R hh t) := fun j hj => snF_out hj t ht
theorem snF_hi {j : Nat} : ∀ t, 16 + 9 * t ≤ j → snF R hh t j = R j
  | 0, _ => rfl
  | t + 1, h => by
    show (if (snA R hh t (nn R 2)).2 = 0 then va_up (snF R hh t) (16 + 9 * t + 1) 1 else va_up (va_up (snF R hh t) (16 + 9 * t + 1) 0) (16 + 9 * t + 0) (snD R hh t)) j = R j
    split
    · rw [va_up_n (by omega)]
      exact snF_hi t (by omega)
    · rw [va_up_n (by omega), va_up_n (by omega)]
      exact snF_hi t (by omega)
theorem snF_wn (hN : WN R) (ht : t ≤ 150) : WN (snF R hh t) := by
  have e : ∀ j, j < 5 → snF R hh t j = R j := fun j hj => snF_out (fun t _ => by omega) t ht
  have en : ∀ j, j < 5 → nn (snF R hh t) j = nn R j := fun j hj => by unfold nn; rw [e j hj]
  unfold WN
  rw [e 0 (by omega), e 1 (by omega), e 2 (by omega), e 3 (by omega), e 4 (by omega), en 0 (by omega), en 1 (by omega), en 2 (by omega), en 3 (by omega), en 4 (by omega)]
  exact hN
theorem near_loop9 {x a b : Int32} (hK : KS sh z) (hN : WN R) (hA : AG (d.1 (z + 243)) R) : ∀ (m i fu : Nat) (v : Int32), i + m = nn R 1 → m < fu → ((v = 0 ∧ ∀ t, t < i → ¬ jt R x a b t) ∨ (v = 1 ∧ jn R x a b)) → Rn (f_X12_near_48 N sh d fu (z + 242) x a b v (nI i)) (fun r => (r = 0 ∧ ¬ jn R x a b) ∨ (r = 1 ∧ jn R x a b))
  | 0, i, fu, v, hi, hf, hv => by
    obtain ⟨fu, rfl⟩ : ∃ q, fu = q + 1 := ⟨fu - 1, by omega⟩
    show Rn (g_X12_near_48 N sh (f_X12_near_48 N sh d fu) (z + 242) x a b v (nI i) d) _
    have n1 := hN.2.1
    unfold g_X12_near_48 f_X12_near_204 f_X12_near_214
    refine rdg hK hA 1 rfl (by decide) ?_
    rw [n1.1]
    refine rn_t (nI_le (by omega) (by omega)) ?_
    rcases hv with ⟨rfl, h⟩ | ⟨rfl, h⟩
    · exact rn_t rfl (rn_some (Or.inl ⟨rfl, fun ⟨t, h1, h2⟩ => h t (by omega) h2⟩))
    · exact rn_f (by decide) (rn_some (Or.inr ⟨rfl, h⟩))
  | m + 1, i, fu, v, hi, hf, hv => by
    obtain ⟨fu, rfl⟩ : ∃ q, fu = q + 1 := ⟨fu - 1, by omega⟩
    have ih := near_loop9 (x := x) (a := a) (b := b) hK hN hA m (i + 1) fu
    show Rn (g_X12_near_48 N sh (f_X12_near_48 N sh d fu) (z + 242) x a b v (nI i) d) _
    have n1 := hN.2.1
    unfold g_X12_near_48
    refine rdg hK hA 1 rfl (by decide) ?_
    rw [n1.1]
    refine rn_f (nI_ge (by omega) (by omega)) ?_
    rcases hv with ⟨rfl, h⟩ | ⟨rfl, h⟩
    · refine rn_f (fun q => q rfl) ?_
      have i150 : i < 150 := by omega
      have fin : ∀ l8 t0 : Int32, ((l8 ≠ 0 ∨ t0 ≠ 0) ↔ ((R (16 + 9 * i + 7) = x ∧ (R (16 + 9 * i + 8) = a ∨ R (16 + 9 * i + 8) = b)) ∨ (R (16 + 9 * i + 8) = x ∧ (R (16 + 9 * i + 7) = a ∨ R (16 + 9 * i + 7) = b)))) → Rn (f_X12_near_170 N sh (f_X12_near_48 N sh d fu) (z + 242) x a b (nI i) l8 t0 d) (fun r => (r = 0 ∧ ¬ jn R x a b) ∨ (r = 1 ∧ jn R x a b)) := fun l8 t0 hp => by
        unfold f_X12_near_170 f_X12_near_195 f_X12_near_191 f_X12_near_196
        rw [nI_1]
        have no : ¬ jt R x a b i → Rn (f_X12_near_48 N sh d fu (z + 242) x a b 0 (nI (i + 1))) (fun r => (r = 0 ∧ ¬ jn R x a b) ∨ (r = 1 ∧ jn R x a b)) := fun hj => ih 0 (by omega) (by omega) (Or.inl ⟨rfl, fun t ht => by
          by_cases e : t = i
          · rw [e]; exact hj
          · exact h t (by omega)⟩)
        have yes : jt R x a b i → Rn (f_X12_near_48 N sh d fu (z + 242) x a b 1 (nI (i + 1))) (fun r => (r = 0 ∧ ¬ jn R x a b) ∨ (r = 1 ∧ jn R x a b)) := fun hj => ih 1 (by omega) (by omega) (Or.inr ⟨rfl, i, by omega, hj⟩)
        refine rn_eq (m_isOpen hK hA i150) ?_
        by_cases ho : R (16 + 9 * i + 4) = 0
        · rw [if_pos ho]
          refine rn_f (by decide) ?_
          refine rn_ite (fun h1 => yes ⟨ho, hp.mp (Or.inl h1)⟩) (fun h1 => ?_)
          refine rn_ite (fun h2 => no (fun q => (hp.mpr q.2).elim (fun r => h1 r) (fun r => r h2))) (fun h2 => yes ⟨ho, hp.mp (Or.inr h2)⟩)
        · rw [if_neg ho]
          exact rn_t rfl (no (fun q => ho q.1))
      have mid : ∀ l8 : Int32, (l8 ≠ 0 ↔ (R (16 + 9 * i + 7) = x ∧ (R (16 + 9 * i + 8) = a ∨ R (16 + 9 * i + 8) = b))) → Rn (f_X12_near_120 N sh (f_X12_near_48 N sh d fu) (z + 242) x a b (nI i) ((16 : Int32) + (9 : Int32) * nI i) l8 d) (fun r => (r = 0 ∧ ¬ jn R x a b) ∨ (r = 1 ∧ jn R x a b)) := fun l8 h8 => by
        unfold f_X12_near_120 f_X12_near_169 f_X12_near_165
        refine rst hK hA 8 i150 (by decide) rfl ?_
        refine rn_ite (fun h1 => ?_) (fun h1 => ?_)
        · refine fin l8 0 ⟨fun q => q.elim (fun q => Or.inl (h8.mp q)) (fun q => absurd rfl q), fun q => q.elim (fun q => Or.inl (h8.mpr q)) (fun q => absurd q.1 h1)⟩
        have h1 := Decidable.of_not_not h1
        refine rst hK hA 7 i150 (by decide) rfl ?_
        refine rn_ite (fun h2 => ?_) (fun h2 => ?_)
        · exact fin l8 1 ⟨fun _ => Or.inr ⟨h1, Or.inl h2⟩, fun _ => Or.inr (by decide)⟩
        refine rst hK hA 7 i150 (by decide) rfl ?_
        refine rn_ite (fun h3 => ?_) (fun h3 => ?_)
        · exact fin l8 0 ⟨fun q => q.elim (fun q => Or.inl (h8.mp q)) (fun q => absurd rfl q), fun q => q.elim (fun q => Or.inl (h8.mpr q)) (fun q => q.2.elim (fun r => absurd r h2) (fun r => absurd r h3))⟩
        · exact fin l8 1 ⟨fun _ => Or.inr ⟨h1, Or.inr (Decidable.of_not_not h3)⟩, fun _ => Or.inr (by decide)⟩
      refine rn_eq (m_st hK) ?_
      unfold f_X12_near_119 f_X12_near_115
      refine rst hK hA 7 i150 (by decide) rfl ?_
      refine rn_ite (fun h1 => ?_) (fun h1 => ?_)
      · exact mid 0 ⟨fun q => absurd rfl q, fun q => absurd q.1 h1⟩
      have h1 := Decidable.of_not_not h1
      refine rst hK hA 8 i150 (by decide) rfl ?_
      refine rn_ite (fun h2 => ?_) (fun h2 => ?_)
      · exact mid 1 ⟨fun _ => ⟨h1, Or.inl h2⟩, fun _ => by decide⟩
      refine rst hK hA 8 i150 (by decide) rfl ?_
      refine rn_ite (fun h3 => ?_) (fun h3 => ?_)
      · exact mid 0 ⟨fun q => absurd rfl q, fun q => q.2.elim (fun r => absurd r h2) (fun r => absurd r h3)⟩
      · exact mid 1 ⟨fun _ => ⟨h1, Or.inr (Decidable.of_not_not h3)⟩, fun _ => by decide⟩
    · refine rn_t (by decide) ?_
      unfold f_X12_near_204 f_X12_near_214
      exact rn_f (by decide) (rn_some (Or.inr ⟨rfl, h⟩))
theorem m_near (hN1 : 200 ≤ N) (hK : KS sh z) (hN : WN R) (hA : AG (d.1 (z + 243)) R) (ht : t < 150) : f_X12_near N sh (z + 242) (R (1366 + 3 * g)) (nI t) d = some (nI (kn R g t)) := by
  have n1 := hN.2.1.2
  refine rn_val ?_
  unfold f_X12_near f_X12_near_40 kn
  refine rn_t (ks_o hK 242 12 rfl) ?_
  refine rds hK hA 7 ht (by decide) rfl ?_
  refine rds hK hA 8 ht (by decide) rfl ?_
  refine rn_ite (fun h1 => ?_) (fun h1 => ?_)
  · rw [if_pos (Or.inl h1)]
    exact rn_some rfl
  refine rn_ite (fun h2 => ?_) (fun h2 => ?_)
  · rw [if_neg (fun q => q.elim h1 h2)]
    refine rn_mono (near_loop9 hK hN hA (nn R 1) 0 N 0 (by omega) (by omega) (Or.inl ⟨rfl, fun t ht => absurd ht (Nat.not_lt_zero t)⟩)) (fun r hr => ?_)
    rcases hr with ⟨rfl, h⟩ | ⟨rfl, h⟩
    · rw [ite_n h]
      rfl
    · rw [ite_p h]
      rfl
  · rw [if_pos (Or.inr (Decidable.of_not_not h2))]
    exact rn_some rfl
theorem kn_smp (h : smp R R') : kn R' g t = kn R g t := by
  have e1 : R' (1366 + 3 * g) = R (1366 + 3 * g) := h _ (fun t' _ => by omega)
  have e7 : R' (16 + 9 * t + 7) = R (16 + 9 * t + 7) := h.st (by decide) (by decide)
  have e8 : R' (16 + 9 * t + 8) = R (16 + 9 * t + 8) := h.st (by decide) (by decide)
  have ej : ∀ x a b, jn R' x a b ↔ jn R x a b := fun x a b => by
    unfold jn jt
    rw [h.cn (j := 1) (fun t _ => by omega)]
    exact exists_congr (fun t => by rw [h.st (k := 4) (by decide) (by decide), h.st (k := 7) (by decide) (by decide), h.st (k := 8) (by decide) (by decide)])
  unfold kn
  rw [e1, e7, e8]
  by_cases hj : jn R (R (1366 + 3 * g)) (R (16 + 9 * t + 7)) (R (16 + 9 * t + 8))
  · rw [ite_p hj, ite_p ((ej _ _ _).mpr hj)]
  · rw [ite_n hj, ite_n (fun q => hj ((ej _ _ _).mp q))]
end SNW
