/-! go(): what a DRIVE does, and the reference -/
abbrev goI (R : Nat → Int32) (p : Nat) : Nat := nn R (9426 + 13 * p + 6) + nn R (9426 + 13 * p + 8)
abbrev goS (R : Nat → Int32) (p : Nat) : Nat := nn R (9642 + 3 * goI R p)
def clN (R : Nat → Int32) (t : Nat) : Int32 := R (16 + 9 * t + 2) + (if R (16 + 9 * t + 2) < R (16 + 9 * t + 3) then 1 else 0)
/-- a SIDE of a STREET is cleared -/
def clR (R : Nat → Int32) (t : Nat) : Nat → Int32 := va_up (va_up R (16 + 9 * t + 2) (clN R t)) (16 + 9 * t + 0) (if clN R t < R (16 + 9 * t + 3) then R (16 + 9 * t + 0) else 0)
def goC (R : Nat → Int32) (p : Nat) : Nat → Int32 := if R (9642 + 3 * goI R p + 2) = 1 ∧ psN R p (goI R p) ≠ 0 then clR R (goS R p) else R
def goM (R : Nat → Int32) (p : Nat) : Int32 := R (9426 + 13 * p + 9) + nI (max 1 (psN R p (goI R p)) * tkR R p (sln R (goS R p)))
def goP (R : Nat → Int32) (p : Nat) : Nat → Int32 := va_up (va_up (va_up (va_up (goC R p) (9426 + 13 * p + 11) (R (9426 + 13 * p + 11) + (if 1 < psN R p (goI R p) then 1 else 0))) (9426 + 13 * p + 9) (goM R p)) (9426 + 13 * p + 12) (R (9426 + 13 * p + 12) + (if goM R p ≤ R (9426 + 13 * p + 1) then 0 else 1))) (9426 + 13 * p + 8) (R (9426 + 13 * p + 8) + 1)
abbrev gst (R : Nat → Int32) (p : Nat) : Prop := nn R (9426 + 13 * p + 8) < nn R (9426 + 13 * p + 7) ∧ R (16 + 9 * goS R p + 4) = 0
def goF (R : Nat → Int32) (p : Nat) : Nat → Nat → Int32
  | 0 => R
  | k + 1 => goP (goF R p k) p
def goN (R : Nat → Int32) (p : Nat) : Nat → Nat → Nat
  | 0, k => k
  | m + 1, k => if gst (goF R p k) p then goN R p m (k + 1) else k
def goO (R : Nat → Int32) (p k : Nat) : Int32 × Option (Nat → Int32) := (nI k, if k = 0 then none else some (goF R p k))
def sp_go (R : Nat → Int32) (x n : Int32) : Int32 × Option (Nat → Int32) := if (x < 0 ∨ nI (nn R 3) ≤ x) ∨ (n < 1 ∨ 50 < n) then (-2, none) else if R (9426 + 13 * x.toNatClampNeg + 2) = 1 then (-4, none) else if nn R (9426 + 13 * x.toNatClampNeg + 8) < nn R (9426 + 13 * x.toNatClampNeg + 7) then goO R x.toNatClampNeg (goN R x.toNatClampNeg n.toNatClampNeg 0) else (-8, none)
section GO
variable {s s' : AS} {sh : Sh} {d d' d0 : Dt} {z : Nat} {ow ow' : Nat → Nat} {R R' K : Nat → Int32} {u : Bool} {y : YL} {c N p k l a i t : Nat} {q q' : BL} {v : Int32}
theorem up_id {f : Nat → Int32} {x : Int32} (h : x = f a) : va_up f a x = f := funext fun j => by
  by_cases e : j = a
  · rw [e, va_up_s, h]
  · exact va_up_n e
theorem clR_n {j : Nat} (h : j ≠ 16 + 9 * t + 2) (h2 : j ≠ 16 + 9 * t) : clR R t j = R j := by
  unfold clR
  rw [show 16 + 9 * t + 0 = 16 + 9 * t from rfl, va_up_n h2, va_up_n h]
theorem goC_n {j : Nat} (h : ∀ t, t < 150 → j ≠ 16 + 9 * t + 2 ∧ j ≠ 16 + 9 * t) (hs : goS R p < 150) : goC R p j = R j := by
  unfold goC
  split
  · exact clR_n (h _ hs).1 (h _ hs).2
  · rfl
theorem goP_n {j : Nat} (h : ∀ t, t < 150 → j ≠ 16 + 9 * t + 2 ∧ j ≠ 16 + 9 * t) (h2 : j < 9426 + 13 * p + 8 ∨ j = 9426 + 13 * p + 10 ∨ 9426 + 13 * p + 13 ≤ j) (hs : goS R p < 150) : goP R p j = R j := by
  unfold goP
  rw [va_up_n (by omega), va_up_n (by omega), va_up_n (by omega), va_up_n (by omega)]
  exact goC_n h hs
theorem wf_upP (hR : WF R) (hp : p < nn R 3) (hk : k = 8 ∨ k = 9 ∨ k = 11 ∨ k = 12) (h8 : k = 8 → v = nI v.toNatClampNeg ∧ v.toNatClampNeg ≤ nn R (9426 + 13 * p + 7)) : WF (va_up R (9426 + 13 * p + k) v) := by
  have n1 := hR.1.2.1.2
  have n2 := hR.1.2.2.1.2
  have n3 := hR.1.2.2.2.1.2
  have n4 := hR.1.2.2.2.2.2
  have e : ∀ j, j ≠ 9426 + 13 * p + k → va_up R (9426 + 13 * p + k) v j = R j := fun j hj => va_up_n hj
  have en : ∀ j, j ≠ 9426 + 13 * p + k → nn (va_up R (9426 + 13 * p + k) v) j = nn R j := fun j hj => nn_up hj
  refine ⟨wn_up hR.1 (by omega), fun g hg => ?_, fun t ht => ?_, ⟨fun g hg => ?_, fun x hx => ?_⟩, fun p' hp' => ?_, fun j hj => ?_⟩
  · rw [en 2 (by omega)] at hg
    rw [e (1366 + 3 * g + 2) (by omega), en (1366 + 3 * g + 2) (by omega)]
    exact hR.2.1 g hg
  · rw [en 1 (by omega)] at ht
    unfold sln
    rw [en 0 (by omega), e (16 + 9 * t + 7) (by omega), e (16 + 9 * t + 8) (by omega), e (16 + 9 * t + 6) (by omega), en (16 + 9 * t + 6) (by omega), e (16 + 9 * t + 5) (by omega), e (16 + 9 * t + 4) (by omega), e (16 + 9 * t + 3) (by omega), en (16 + 9 * t + 3) (by omega)]
    exact hR.2.2.1 t ht
  · rw [en 2 (by omega)] at hg
    rw [en 0 (by omega), e (1366 + 3 * g) (by omega), e (1366 + 3 * g + 1) (by omega)]
    exact hR.2.2.2.1.1 g hg
  · have hx2 : inC R x := by
      obtain ⟨g, h, q1, q2, q3⟩ := hx
      rw [en 2 (by omega)] at q1
      rw [en _ (by omega)] at q2
      exact ⟨g, h, q1, q2, q3⟩
    have := inC_lt hR.1 hR.2.1 hx2
    rw [e (5426 + x) (by omega)]
    exact hR.2.2.2.1.2 x hx2
  · rw [en 3 (by omega)] at hp'
    obtain ⟨q1, q2, q3, q4, f, m, e9, q5, q6, q7, q8, q9⟩ := hR.2.2.2.2.1 p' hp'
    rw [en 3 (by omega), en 4 (by omega), e (9426 + 13 * p') (by omega), en (9426 + 13 * p') (by omega), e (9426 + 13 * p' + 3) (by omega), e (9426 + 13 * p' + 4) (by omega), e (9426 + 13 * p' + 1) (by omega), en (9426 + 13 * p' + 1) (by omega), e (9426 + 13 * p' + 2) (by omega), e (9426 + 13 * p' + 6) (by omega), e (9426 + 13 * p' + 7) (by omega)]
    refine ⟨q1, fun q => ?_, q3, q4, ?_⟩
    · obtain ⟨a, b, r1, r2, r3, r4, r5, r6⟩ := q2 q
      exact ⟨a, b, r1, r2, r3, r4, by rw [en _ (by omega)]; exact r5, by rw [en _ (by omega)]; exact r6⟩
    · by_cases hc : k = 8 ∧ p' = p
      · obtain ⟨rfl, rfl⟩ := hc
        obtain ⟨v1, v2⟩ := h8 rfl
        have em : nn R (9426 + 13 * p' + 7) = m := by
          unfold nn
          rw [q6, nI_clamp (by omega)]
        exact ⟨f, m, v.toNatClampNeg, q5, q6, by rw [va_up_s]; exact v1, by omega, q9⟩
      · have hne : 9426 + 13 * p' + 8 ≠ 9426 + 13 * p + k := fun h => hc (by
          rcases hk with rfl | rfl | rfl | rfl
          · exact ⟨rfl, by omega⟩
          · omega
          · omega
          · omega)
        exact ⟨f, m, e9, q5, q6, (e _ hne).trans q7, q8, q9⟩
  · rw [en 4 (by omega)] at hj
    obtain ⟨t, c, q1, q2, q3, q4, q5⟩ := hR.2.2.2.2.2 j hj
    exact ⟨t, c, by rw [en 1 (by omega)]; exact q1, by rw [e _ (by omega)]; exact q2, by rw [e _ (by omega)]; exact q3, by rw [e (16 + 9 * t + 7) (by omega), e (16 + 9 * t + 8) (by omega)]; exact q4, by rw [e _ (by omega)]; exact q5⟩
/-- a PART within THE ROUND -/
theorem wp_prt (hR : WF R) (hp : p < nn R 3) : R (9426 + 13 * p + 6) = nI (nn R (9426 + 13 * p + 6)) ∧ R (9426 + 13 * p + 7) = nI (nn R (9426 + 13 * p + 7)) ∧ R (9426 + 13 * p + 8) = nI (nn R (9426 + 13 * p + 8)) ∧ nn R (9426 + 13 * p + 8) ≤ nn R (9426 + 13 * p + 7) ∧ nn R (9426 + 13 * p + 6) + nn R (9426 + 13 * p + 7) ≤ nn R 4 := by
  have n4 := hR.1.2.2.2.2.2
  obtain ⟨-, -, -, -, f, m, e, h1, h2, h3, h4, h5⟩ := hR.2.2.2.2.1 p hp
  have ef : nn R (9426 + 13 * p + 6) = f := by unfold nn; rw [h1, nI_clamp (by omega)]
  have em : nn R (9426 + 13 * p + 7) = m := by unfold nn; rw [h2, nI_clamp (by omega)]
  have ee : nn R (9426 + 13 * p + 8) = e := by unfold nn; rw [h3, nI_clamp (by omega)]
  rw [ef, em, ee]
  exact ⟨h1, h2, h3, h4, h5⟩
theorem goS_lt (hR : WF R) (hp : p < nn R 3) (hg : nn R (9426 + 13 * p + 8) < nn R (9426 + 13 * p + 7)) : goI R p < nn R 4 ∧ goS R p < nn R 1 := by
  obtain ⟨-, -, -, -, h5⟩ := wp_prt hR hp
  have h : goI R p < nn R 4 := by
    show nn R (9426 + 13 * p + 6) + nn R (9426 + 13 * p + 8) < nn R 4
    omega
  exact ⟨h, (wd_at hR h).1⟩
theorem clR_wf (hR : WF R) (ht : t < nn R 1) : WF (clR R t) := by
  have h1 := wf_upS (k := 2) (v := clN R t) hR ht (by decide) (fun q => by omega) (fun q => by omega)
  exact wf_upS (k := 0) h1 (by rw [nn_up (by omega)]; exact ht) (by decide) (fun q => by omega) (fun q => by omega)
theorem goC_wf (hR : WF R) (hp : p < nn R 3) (hg : nn R (9426 + 13 * p + 8) < nn R (9426 + 13 * p + 7)) : WF (goC R p) := by
  unfold goC
  split
  · exact clR_wf hR (goS_lt hR hp hg).2
  · exact hR
theorem nn_eq (h : R' k = R k) : nn R' k = nn R k := by
  unfold nn
  rw [h]
theorem goP_wf (hR : WF R) (hp : p < nn R 3) (hg : nn R (9426 + 13 * p + 8) < nn R (9426 + 13 * p + 7)) : WF (goP R p) := by
  have n1 := hR.1.2.1.2
  have n3 := hR.1.2.2.2.1.2
  have n4 := hR.1.2.2.2.2.2
  have gs := goS_lt hR hp hg
  have w0 := goC_wf hR hp hg
  obtain ⟨a1, a2, a3, a4, a5⟩ := wp_prt hR hp
  have e : ∀ j, (∀ t, t < 150 → j ≠ 16 + 9 * t + 2 ∧ j ≠ 16 + 9 * t) → goC R p j = R j := fun j hj => goC_n hj (by omega)
  have e3 : nn (goC R p) 3 = nn R 3 := nn_eq (e 3 (fun t _ => by omega))
  have w1 := wf_upP (k := 11) (v := R (9426 + 13 * p + 11) + (if 1 < psN R p (goI R p) then 1 else 0)) w0 (by rw [e3]; exact hp) (by decide) (fun q => by omega)
  have w2 := wf_upP (k := 9) (v := goM R p) w1 (by rw [nn_up (by omega), e3]; exact hp) (by decide) (fun q => by omega)
  have w3 := wf_upP (k := 12) (v := R (9426 + 13 * p + 12) + (if goM R p ≤ R (9426 + 13 * p + 1) then 0 else 1)) w2 (by rw [nn_up (by omega), nn_up (by omega), e3]; exact hp) (by decide) (fun q => by omega)
  refine wf_upP (k := 8) w3 (by rw [nn_up (by omega), nn_up (by omega), nn_up (by omega), e3]; exact hp) (by decide) (fun _ => ?_)
  rw [a3, nI_1, nn_up (by omega), nn_up (by omega), nn_up (by omega), nn_eq (e (9426 + 13 * p + 7) (fun t _ => by omega)), nI_clamp (by omega)]
  exact ⟨rfl, by omega⟩
theorem rdpR {β : Type} {Q : β → Prop} {g : Int32 → Option β} {x : Int32} {p : Nat} (hK : KS sh z) (hA : AG (d.1 (z + 243)) R) (k : Nat) (hp : p < 12) (hk : k < 13) (hx : x = nI k) (kk : Rn (g (R (9426 + 13 * p + k))) Q) : Rn ((gP sh (z + 242) 12 0).bind fun v1 => (aT 0 sh d v1 ((9426 : Int32) + (13 : Int32) * nI p + x)).bind g) Q := by
  subst hx
  exact rdg hK hA (9426 + 13 * p + k) (ix_pl p k) (by omega) kk
/-- the PLOUGH's cells behind a DRIVE -/
theorem go_218 {l5 l6 : Int32} (hR : WF R) (hK : KS sh z) (hp : p < nn R 3) (hg : nn R (9426 + 13 * p + 8) < nn R (9426 + 13 * p + 7)) (hM : MFR z d0 d) (hI : RI d z (va_up (goC R p) (9426 + 13 * p + 11) (R (9426 + 13 * p + 11) + (if 1 < psN R p (goI R p) then 1 else 0))) K u) (hl : (if l5 ≤ 0 then l6 else l5 * l6) = nI (max 1 (psN R p (goI R p)) * tkR R p (sln R (goS R p)))) : Rn (f_X12_goesOn_218 N sh (z + 242) ((9426 : Int32) + (13 : Int32) * nI p) l5 l6 d) (fun d' => MFR z d0 d' ∧ RI d' z (goP R p) K u) := by
  have n1 := hR.1.2.1.2
  have n3 := hR.1.2.2.2.1.2
  have gs := goS_lt hR hp hg
  have w0 := (goC_wf hR hp hg).1
  have e : ∀ j, (∀ t, t < 150 → j ≠ 16 + 9 * t + 2 ∧ j ≠ 16 + 9 * t) → goC R p j = R j := fun j hj => goC_n hj (by omega)
  have w1 := wn_up (j := 9426 + 13 * p + 11) (v := R (9426 + 13 * p + 11) + (if 1 < psN R p (goI R p) then 1 else 0)) w0 (by omega)
  have ha := ks_a hK 243 0 15642 rfl
  have stp : ∀ x, x = (if l5 ≤ 0 then l6 else l5 * l6) → Rn (f_X12_goesOn_243 N sh (z + 242) ((9426 : Int32) + (13 : Int32) * nI p) (z + 243) ((9426 : Int32) + (13 : Int32) * nI p + 9) (R (9426 + 13 * p + 9)) x d) (fun d' => MFR z d0 d' ∧ RI d' z (goP R p) K u) := fun x hx => by
    unfold f_X12_goesOn_243 f_X12_goesOn_280
    rw [hx, hl, show R (9426 + 13 * p + 9) + nI (max 1 (psN R p (goI R p)) * tkR R p (sln R (goS R p))) = goM R p from rfl]
    refine rn_eq (q_sI ha (9426 + 13 * p + 9) (ix_pl p 9) (by omega) (by decide)) ?_
    have r2 := ri_cellG (j := 9426 + 13 * p + 9) (v := goM R p) hI w1 (by omega) (fun s k _ q1 q2 => by omega)
    have w2 := wn_up (j := 9426 + 13 * p + 9) (v := goM R p) w1 (by omega)
    refine r_gP hK 242 12 0 243 rfl (by decide) ?_
    refine rn_eq (q_aT ha (9426 + 13 * p + 12) (ix_pl p 12) (by omega) (by decide)) ?_
    rw [r2.1 _ (by omega), va_up_n (by omega), va_up_n (by omega), e _ (fun t _ => by omega)]
    refine rdpR hK r2.1 9 (by omega) (by decide) rfl ?_
    rw [va_up_s]
    refine rdpR hK r2.1 1 (by omega) (by decide) rfl ?_
    rw [va_up_n (by omega), va_up_n (by omega), e _ (fun t _ => by omega)]
    have fin : ∀ o, o = (if goM R p ≤ R (9426 + 13 * p + 1) then (0 : Int32) else 1) → Rn ((sI sh (wI d (z + 243) (9426 + 13 * p + 9) (goM R p)) (z + 243) ((9426 : Int32) + (13 : Int32) * nI p + 12) (R (9426 + 13 * p + 12) + o)).bind fun d44 => (gP sh (z + 242) 12 0).bind fun v45 => (aT 0 sh d44 v45 ((9426 : Int32) + (13 : Int32) * nI p + (8 : Int32))).bind fun v46 => (sI sh d44 v45 ((9426 : Int32) + (13 : Int32) * nI p + (8 : Int32)) (v46 + (1 : Int32))).bind fun d47 => some d47) (fun d' => MFR z d0 d' ∧ RI d' z (goP R p) K u) := fun o ho => by
      refine rn_eq (q_sI ha (9426 + 13 * p + 12) (ix_pl p 12) (by omega) (by decide)) ?_
      have r3 := ri_cellG (j := 9426 + 13 * p + 12) (v := R (9426 + 13 * p + 12) + o) r2 w2 (by omega) (fun s k _ q1 q2 => by omega)
      have w3 := wn_up (j := 9426 + 13 * p + 12) (v := R (9426 + 13 * p + 12) + o) w2 (by omega)
      refine r_gP hK 242 12 0 243 rfl (by decide) ?_
      refine rn_eq (q_aT ha (9426 + 13 * p + 8) (ix_pl p 8) (by omega) (by decide)) ?_
      rw [r3.1 _ (by omega), va_up_n (by omega), va_up_n (by omega), va_up_n (by omega), e _ (fun t _ => by omega)]
      refine rn_eq (q_sI ha (9426 + 13 * p + 8) (ix_pl p 8) (by omega) (by decide)) (rn_some ⟨?_, ?_⟩)
      · exact hM.tr ((MFR.wI (by decide) (by decide)).tr ((MFR.wI (by decide) (by decide)).tr (MFR.wI (by decide) (by decide))))
      · have r4 := ri_cellG (j := 9426 + 13 * p + 8) (v := R (9426 + 13 * p + 8) + 1) r3 w3 (by omega) (fun s k _ q1 q2 => by omega)
        rw [ho] at r4 ⊢
        exact r4
    refine rn_ite (fun h => ?_) (fun h => ?_)
    · exact fin 0 (if_pos h).symm
    · exact fin 1 (if_neg h).symm
  unfold f_X12_goesOn_218
  refine r_gP hK 242 12 0 243 rfl (by decide) ?_
  refine rn_eq (q_aT ha (9426 + 13 * p + 9) (ix_pl p 9) (by omega) (by decide)) ?_
  rw [hI.1 _ (by omega), va_up_n (by omega), e _ (fun t _ => by omega)]
  exact rn_ite (fun h => stp _ (if_pos h).symm) (fun h => stp _ (if_neg h).symm)
theorem m_goesOn (hR : WF R) (hK : KS sh z) (hp : p < nn R 3) (hg : nn R (9426 + 13 * p + 8) < nn R (9426 + 13 * p + 7)) (hI : RI d z R K u) : Rn (f_X12_goesOn N sh (z + 242) (nI p) d) (fun d' => MFR z d d' ∧ RI d' z (goP R p) K u) := by
  have hN := hR.1
  have n1 := hN.2.1.2
  have n3 := hN.2.2.2.1.2
  have n4 := hN.2.2.2.2.2
  have hW := wpk_of hR
  obtain ⟨gi, gt⟩ := goS_lt hR hp hg
  obtain ⟨a1, a2, a3, a4, a5⟩ := wp_prt hR hp
  obtain ⟨w1, w2, w3⟩ := wd_at hR gi
  obtain ⟨-, ⟨l1, l2, l3⟩, -⟩ := hR.2.2.1 _ gt
  have sb := psN_le (R := R) (p := p) (i := goI R p)
  have tb := tkR_b (R := R) (p := p) l3
  have ha := ks_a hK 243 0 15642 rfl
  have e1 : R (9642 + 3 * goI R p + 2) = 1 → psN R p (goI R p) = (psR R p (R (16 + 9 * goS R p + 0))).toNatClampNeg := fun q => if_pos q
  unfold f_X12_goesOn
  refine rn_t (ks_o hK 242 12 rfl) ?_
  refine rn_eq (m_pl hK) ?_
  refine rdpR hK hI.1 6 (by omega) (by decide) rfl ?_
  rw [a1]
  refine rdpR hK hI.1 8 (by omega) (by decide) rfl ?_
  rw [a3, nI_add]
  refine rdd0 hK hI.1 (i := goI R p) (by omega) ?_
  rw [w2]
  refine rn_eq (m_st hK) ?_
  refine rdd hK hI.1 (i := goI R p) (by omega) 2 (by decide) rfl ?_
  /- behind the asking -/
  have fin : ∀ (t0 : Int32) d1, RG z d d1 → ((R (9642 + 3 * goI R p + 2) = 1 ∧ t0 = nI (psN R p (goI R p))) ∨ (R (9642 + 3 * goI R p + 2) = 0 ∧ t0 = -1)) → Rn (f_X12_goesOn_79 N sh (z + 242) (nI p) ((9426 : Int32) + (13 : Int32) * nI p) ((16 : Int32) + (9 : Int32) * nI (goS R p)) t0 d1) (fun d' => MFR z d d' ∧ RI d' z (goP R p) K u) := fun t0 d1 hd1 ht => by
    have hI1 := ri_rg hI hd1
    unfold f_X12_goesOn_79
    refine rst hK hI1.1 6 (by omega) (by decide) rfl ?_
    rw [l1]
    refine rn_bind (m_takes hK hN hW hI1.1 hp l3 l2) (fun r hr => ?_)
    rw [hr.1]
    have hd2 := hd1.tr hr.2
    have hI2 := ri_rg hI1 hr.2
    have id11 : ∀ x : Int32, x = 0 → va_up R (9426 + 13 * p + 11) (R (9426 + 13 * p + 11) + x) = R := fun x hx => up_id (by rw [hx]; exact Int32.add_zero _)
    rcases ht with ⟨h1, rfl⟩ | ⟨h1, rfl⟩
    · by_cases h0 : psN R p (goI R p) = 0
      · refine rn_f (fun q => q (by rw [h0]; rfl)) ?_
        refine rn_bind (m_finds hK) (fun d3 hd3 => ?_)
        unfold f_X12_goesOn_109
        refine rn_t (by rw [h0]; decide) ?_
        have hI3 := ri_rg hI2 hd3
        refine go_218 hR hK hp hg (hd2.tr hd3).mfr ?_ ?_
        · have eC : goC R p = R := if_neg (fun q => q.2 h0)
          rw [eC, id11 _ (by rw [h0]; rfl)]
          exact hI3
        · rw [h0, if_pos (by decide), Nat.max_eq_left (by omega), Nat.one_mul]
      · refine rn_t (nI_ne0 (by omega) (by omega)) ?_
        unfold f_X12_goesOn_109
        refine rn_f (nI_nle (by omega) (by omega)) ?_
        have eC : goC R p = clR R (goS R p) := if_pos ⟨h1, h0⟩
        have c150 : goS R p < 150 := by omega
        refine r_gP hK 242 12 0 243 rfl (by decide) ?_
        refine rn_eq (q_aT ha (16 + 9 * goS R p + 2) (ix_st (goS R p) 2) (by omega) (by decide)) ?_
        rw [hI2.1 _ (by omega)]
        refine rst hK hI2.1 2 c150 (by decide) rfl ?_
        refine rst hK hI2.1 3 c150 (by decide) rfl ?_
        have wa := wn_up (j := 16 + 9 * goS R p + 2) (v := clN R (goS R p)) hN (by omega)
        have wb := wn_up (j := 16 + 9 * goS R p + 0) (v := if clN R (goS R p) < R (16 + 9 * goS R p + 3) then R (16 + 9 * goS R p + 0) else 0) wa (by omega)
        have stp : ∀ o, o = (if R (16 + 9 * goS R p + 2) < R (16 + 9 * goS R p + 3) then (1 : Int32) else 0) → Rn (f_X12_goesOn_150 N sh (z + 242) ((9426 : Int32) + (13 : Int32) * nI p) ((16 : Int32) + (9 : Int32) * nI (goS R p)) (nI (psN R p (goI R p))) (nI (tkR R p (sln R (goS R p)))) (z + 243) ((16 : Int32) + (9 : Int32) * nI (goS R p) + 2) (R (16 + 9 * goS R p + 2)) o r.2) (fun d' => MFR z d d' ∧ RI d' z (goP R p) K u) := fun o ho => by
          have ec : R (16 + 9 * goS R p + 2) + o = clN R (goS R p) := by
            rw [ho]
            rfl
          unfold f_X12_goesOn_150 f_X12_goesOn_194 f_X12_goesOn_216
          rw [ec]
          refine rn_eq (q_sI ha (16 + 9 * goS R p + 2) (ix_st (goS R p) 2) (by omega) (by decide)) ?_
          have r1 := ri_cellG (j := 16 + 9 * goS R p + 2) (v := clN R (goS R p)) hI2 hN (by omega) (fun s k _ q1 q2 => by omega)
          refine r_gP hK 242 12 0 243 rfl (by decide) ?_
          refine rst hK r1.1 2 c150 (by decide) rfl ?_
          rw [va_up_s]
          refine rst hK r1.1 3 c150 (by decide) rfl ?_
          rw [va_up_n (by omega)]
          have fin2 : ∀ w, w = (if clN R (goS R p) < R (16 + 9 * goS R p + 3) then R (16 + 9 * goS R p + 0) else 0) → Rn ((sI sh (wI r.2 (z + 243) (16 + 9 * goS R p + 2) (clN R (goS R p))) (z + 243) ((16 : Int32) + (9 : Int32) * nI (goS R p) + 0) w).bind fun d41 => (gP sh (z + 242) 12 0).bind fun v42 => (aT 0 sh d41 v42 ((9426 : Int32) + (13 : Int32) * nI p + (11 : Int32))).bind fun v43 => if nI (psN R p (goI R p)) ≤ (1 : Int32) then ((sI sh d41 v42 ((9426 : Int32) + (13 : Int32) * nI p + (11 : Int32)) (v43 + 0)).bind fun d48 => f_X12_goesOn_218 N sh (z + 242) ((9426 : Int32) + (13 : Int32) * nI p) (nI (psN R p (goI R p))) (nI (tkR R p (sln R (goS R p)))) d48) else ((sI sh d41 v42 ((9426 : Int32) + (13 : Int32) * nI p + (11 : Int32)) (v43 + 1)).bind fun d48 => f_X12_goesOn_218 N sh (z + 242) ((9426 : Int32) + (13 : Int32) * nI p) (nI (psN R p (goI R p))) (nI (tkR R p (sln R (goS R p)))) d48)) (fun d' => MFR z d d' ∧ RI d' z (goP R p) K u) := fun w hw => by
            refine rn_eq (q_sI ha (16 + 9 * goS R p + 0) (ix_st (goS R p) 0) (by omega) (by decide)) ?_
            have r2 := ri_cellG (j := 16 + 9 * goS R p + 0) (v := w) r1 wa (by omega) (fun s k _ q1 q2 => by omega)
            refine r_gP hK 242 12 0 243 rfl (by decide) ?_
            refine rn_eq (q_aT ha (9426 + 13 * p + 11) (ix_pl p 11) (by omega) (by decide)) ?_
            rw [r2.1 _ (by omega), va_up_n (by omega), va_up_n (by omega)]
            have hl : (if nI (psN R p (goI R p)) ≤ 0 then nI (tkR R p (sln R (goS R p))) else nI (psN R p (goI R p)) * nI (tkR R p (sln R (goS R p)))) = nI (max 1 (psN R p (goI R p)) * tkR R p (sln R (goS R p))) := by
              rw [if_neg (nI_nle (by omega) (by omega)), pk_mul, Nat.max_eq_right (by omega)]
            have last : ∀ o2, o2 = (if 1 < psN R p (goI R p) then (1 : Int32) else 0) → Rn ((sI sh (wI (wI r.2 (z + 243) (16 + 9 * goS R p + 2) (clN R (goS R p))) (z + 243) (16 + 9 * goS R p + 0) w) (z + 243) ((9426 : Int32) + (13 : Int32) * nI p + (11 : Int32)) (R (9426 + 13 * p + 11) + o2)).bind fun d48 => f_X12_goesOn_218 N sh (z + 242) ((9426 : Int32) + (13 : Int32) * nI p) (nI (psN R p (goI R p))) (nI (tkR R p (sln R (goS R p)))) d48) (fun d' => MFR z d d' ∧ RI d' z (goP R p) K u) := fun o2 ho2 => by
              refine rn_eq (q_sI ha (9426 + 13 * p + 11) (ix_pl p 11) (by omega) (by decide)) ?_
              have r3 := ri_cellG (j := 9426 + 13 * p + 11) (v := R (9426 + 13 * p + 11) + o2) r2 (wn_up wa (by omega)) (by omega) (fun s k _ q1 q2 => by omega)
              refine go_218 hR hK hp hg (hd2.mfr.tr ((MFR.wI (by decide) (by decide)).tr ((MFR.wI (by decide) (by decide)).tr (MFR.wI (by decide) (by decide))))) ?_ hl
              rw [eC]
              rw [hw, ho2] at r3
              rw [hw, ho2]
              exact r3
            refine rn_ite (fun h5 => last 0 ?_) (fun h5 => last 1 ?_)
            · have := (nI_leI (b := 1) (by omega) (by decide)).mp h5
              rw [if_neg (by omega)]
            · have : ¬ psN R p (goI R p) ≤ 1 := fun q => h5 (nI_le (b := 1) q (by decide))
              rw [if_pos (by omega)]
          refine rn_ite (fun h4 => ?_) (fun h4 => ?_)
          · refine rst hK r1.1 0 c150 (by decide) rfl ?_
            rw [va_up_n (by omega)]
            exact fin2 _ (if_pos h4).symm
          · exact fin2 _ (if_neg h4).symm
        refine rn_ite (fun h3 => ?_) (fun h3 => ?_)
        · exact stp 0 (if_neg (Int32.not_lt.mpr h3)).symm
        · exact stp 1 (if_pos (Int32.not_le.mp h3)).symm
    · refine rn_t (by decide) ?_
      unfold f_X12_goesOn_109
      refine rn_t (by decide) ?_
      have hne : ¬ R (9642 + 3 * goI R p + 2) = 1 := by rw [h1]; decide
      have ep : psN R p (goI R p) = 1 := if_neg hne
      refine go_218 hR hK hp hg hd2.mfr ?_ ?_
      · have eC : goC R p = R := if_neg (fun q => hne q.1)
        rw [eC, id11 _ (by rw [ep]; rfl)]
        exact hI2
      · rw [ep, if_pos (by decide)]
        rw [Nat.max_self, Nat.one_mul]
  rcases w3 with h1 | h1
  · refine rn_f (fun q => q h1) ?_
    exact fin _ d RG.rf (Or.inr ⟨h1, rfl⟩)
  · refine rn_t (by rw [h1]; decide) ?_
    refine rst hK hI.1 0 (by omega) (by decide) rfl ?_
    refine rn_bind (m_passes hK hN hW hI.1 hp) (fun r hr => ?_)
    have e2 := psR_nI (R := R) (p := p) (v := R (16 + 9 * goS R p + 0))
    rw [← e1 h1] at e2
    rw [hr.1, e2]
    exact fin _ r.2 hr.2 (Or.inl ⟨h1, rfl⟩)
end GO
