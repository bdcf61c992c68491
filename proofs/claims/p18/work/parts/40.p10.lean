/-! 9q.go.lean.txt -/
/-! go(): what a DRIVE does, and the reference -/
abbrev goI (R : Nat → Int32) (p : Nat) : Nat := nn R (9426 + 13 * p + 6) + nn R (9426 + 13 * p + 8)
abbrev goS (R : Nat → Int32) (p : Nat) : Nat := nn R (9642 + 3 * goI R p)
def clN (R : Nat → Int32) (t : Nat) : Int32 := R (16 + 9 * t + 2) + (if R (16 + 9 * t + 2) < R (16 + 9 * t + 3) then 1 else 0)
/-- a SIDE of a STREET is cleared -/
def clR (R : Nat → Int32) (t : Nat) : Nat → Int32 := va_up (va_up R (16 + 9 * t + 2) (clN R t)) (16 + 9 * t + 0) (if clN R t < R (16 + 9 * t + 3) then R (16 + 9 * t + 0) else 0)
def goC (R : Nat → Int32) (p : Nat) : Nat → Int32 := if R (9642 + 3 * goI R p + 2) = 1 ∧ psN R p (goI R p) ≠ 0 then clR R (goS R p) else R
def goM (R : Nat → Int32) (p : Nat) : Int32 := R (9426 + 13 * p + 9) + nI (max 1 (psN R p (goI R p)) * tkR R p (sln R (goS R p)))
def goP (R : Nat → Int32) (p : Nat) : Nat → Int32 := va_up (va_up (va_up (va_up (goC R p) (9426 + 13 * p + 11) (R (9426 + 13 * p + 11) + (if 1 < psN R p (goI R p) then 1 else 0))) (9426 + 13 * p + 9) (goM R p)) (9426 + 13 * p + 12) (R (9426 + 13 * p + 12) + (if goM R p ≤ R (9426 + 13 * p + 1) then 0 else 1))) (9426 + 13 * p + 8) (R (9426 + 13 * p + 8) + 1)
abbrev gst (R : Nat → Int32) (p : Nat) : Prop := nn R (9426 + 13 * p + 8) < nn R (9426 + 13 * p + 7) ∧ R (16 + 9 * goS R p + 4) = 0
def goF (R : Nat → Int32) (p : Nat) : Nat → Nat → Int32
  | 0 => R
  | k + 1 => goP (goF R p k) p
def goN (R : Nat → Int32) (p : Nat) : Nat → Nat → Nat
  | 0, k => k
  | m + 1, k => if gst (goF R p k) p then goN R p m (k + 1) else k
def goO (R : Nat → Int32) (p k : Nat) : Int32 × Option (Nat → Int32) := (nI k, if k = 0 then none else some (goF R p k))
def sp_go (R : Nat → Int32) (x n : Int32) : Int32 × Option (Nat → Int32) := if (x < 0 ∨ nI (nn R 3) ≤ x) ∨ (n < 1 ∨ 50 < n) then (-2, none) else if R (9426 + 13 * x.toNatClampNeg + 2) = 1 then (-4, none) else if nn R (9426 + 13 * x.toNatClampNeg + 8) < nn R (9426 + 13 * x.toNatClampNeg + 7) then goO R x.toNatClampNeg (goN R x.toNatClampNeg n.toNatClampNeg 0) else (-8, none)
section GO
variable {s s' : AS} {sh : Sh} {d d' d0 : Dt} {z : Nat} {ow ow' : Nat → Nat} {R R' K : Nat → Int32} {u : Bool} {y : YL} {c N p k l a i t : Nat} {q q' : BL} {v : Int32}
theorem up_id {f : Nat → Int32} {x : Int32} (h : x = f a) : va_up f a x = f := funext fun j => by
  by_cases e : j = a
  · rw [e, va_up_s, h]
  · exact va_up_n e
theorem clR_n {j : Nat} (h : j ≠ 16 + 9 * t + 2) (h2 : j ≠ 16 + 9 * t) : clR R t j = R j := by
  unfold clR
  rw [show 16 + 9 * t + 0 = 16 + 9 * t from rfl, va_up_n h2, va_up_n h]
theorem goC_n {j : Nat} (h : ∀ t, t < 150 → j ≠ 16 + 9 * t + 2 ∧ j ≠ 16 + 9 * t) (hs : goS R p < 150) : goC R p j = R j := by
  unfold goC
  split
  · exact clR_n (h _ hs).1 (h _ hs).2
  · rfl
theorem goP_n {j : Nat} (h : ∀ t, t < 150 → j ≠ 16 + 9 * t + 2 ∧ j ≠ 16 + 9 * t) (h2 : j < 9426 + 13 * p + 8 ∨ j = 9426 + 13 * p + 10 ∨ 9426 + 13 * p + 13 ≤ j) (hs : goS R p < 150) : goP R p j = R j := by
  unfold goP
  rw [va_up_n (by omega), va_up_n (by omega), va_up_n (by omega), va_up_n (by omega)]
  exact goC_n h hs
theorem wf_upP (hR : WF R) (hp : p < nn R 3) (hk : k = 8 ∨ k = 9 ∨ k = 11 ∨ k = 12) (h8 : k = 8 → v = nI v.toNatClampNeg ∧ v.toNatClampNeg ≤ nn R (9426 + 13 * p + 7)) : WF (va_up R (9426 + 13 * p + k) v) := by
  have n1 := hR.1.2.1.2
  have n2 := hR.1.2.2.1.2
  have n3 := hR.1.2.2.2.1.2
  have n4 := hR.1.2.2.2.2.2
  have e : ∀ j, j ≠ 9426 + 13 * p + k → va_up R (9426 + 13 * p + k) v j = R j := fun j hj => va_up_n hj
  have en : ∀ j, j ≠ 9426 + 13 * p + k → nn (va_up R (9426 + 13 * p + k) v) j = nn R j := fun j hj => nn_up hj
  refine ⟨wn_up hR.1 (by omega), fun g hg => ?_, fun t ht => ?_, ⟨fun g hg => ?_, fun x hx => ?_⟩, fun p' hp' => ?_, fun j hj => ?_⟩
  · rw [en 2 (by omega)] at hg
    rw [e (1366 + 3 * g + 2) (by omega), en (1366 + 3 * g + 2) (by omega)]
    exact hR.2.1 g hg
  · rw [en 1 (by omega)] at ht
    unfold sln
    rw [en 0 (by omega), e (16 + 9 * t + 7) (by omega), e (16 + 9 * t + 8) (by omega), e (16 + 9 * t + 6) (by omega), en (16 + 9 * t + 6) (by omega), e (16 + 9 * t + 5) (by omega), e (16 + 9 * t + 4) (by omega), e (16 + 9 * t + 3) (by omega), en (16 + 9 * t + 3) (by omega)]
    exact hR.2.2.1 t ht
  · rw [en 2 (by omega)] at hg
    rw [en 0 (by omega), e (1366 + 3 * g) (by omega), e (1366 + 3 * g + 1) (by omega)]
    exact hR.2.2.2.1.1 g hg
  · have hx2 : inC R x := by
      obtain ⟨g, h, q1, q2, q3⟩ := hx
      rw [en 2 (by omega)] at q1
      rw [en _ (by omega)] at q2
      exact ⟨g, h, q1, q2, q3⟩
    have := inC_lt hR.1 hR.2.1 hx2
    rw [e (5426 + x) (by omega)]
    exact hR.2.2.2.1.2 x hx2
  · rw [en 3 (by omega)] at hp'
    obtain ⟨q1, q2, q3, q4, f, m, e9, q5, q6, q7, q8, q9⟩ := hR.2.2.2.2.1 p' hp'
    rw [en 3 (by omega), en 4 (by omega), e (9426 + 13 * p') (by omega), en (9426 + 13 * p') (by omega), e (9426 + 13 * p' + 3) (by omega), e (9426 + 13 * p' + 4) (by omega), e (9426 + 13 * p' + 1) (by omega), en (9426 + 13 * p' + 1) (by omega), e (9426 + 13 * p' + 2) (by omega), e (9426 + 13 * p' + 6) (by omega), e (9426 + 13 * p' + 7) (by omega)]
    refine ⟨q1, fun q => ?_, q3, q4, ?_⟩
    · obtain ⟨a, b, r1, r2, r3, r4, r5, r6⟩ := q2 q
      exact ⟨a, b, r1, r2, r3, r4, by rw [en _ (by omega)]; exact r5, by rw [en _ (by omega)]; exact r6⟩
    · by_cases hc : k = 8 ∧ p' = p
      · obtain ⟨rfl, rfl⟩ := hc
        obtain ⟨v1, v2⟩ := h8 rfl
        have em : nn R (9426 + 13 * p' + 7) = m := by
          unfold nn
          rw [q6, nI_clamp (by omega)]
        exact ⟨f, m, v.toNatClampNeg, q5, q6, by rw [va_up_s]; exact v1, by omega, q9⟩
      · have hne : 9426 + 13 * p' + 8 ≠ 9426 + 13 * p + k := fun h => hc (by
          rcases hk with rfl | rfl | rfl | rfl
          · exact ⟨rfl, by omega⟩
          · omega
          · omega
          · omega)
        exact ⟨f, m, e9, q5, q6, (e _ hne).trans q7, q8, q9⟩
  · rw [en 4 (by omega)] at hj
    obtain ⟨t, c, q1, q2, q3, q4, q5⟩ := hR.2.2.2.2.2 j hj
    exact ⟨t, c, by rw [en 1 (by omega)]; exact q1, by rw [e _ (by omega)]; exact q2, by rw [e _ (by omega)]; exact q3, by rw [e (16 + 9 * t + 7) (by omega), e (16 + 9 * t + 8) (by omega)]; exact q4, by rw [e _ (by omega)]; exact q5⟩
/-- a PART within THE ROUND -/
theorem wp_prt (hR : WF R) (hp : p < nn R 3) : R (9426 + 13 * p + 6) = nI (nn R (9426 + 13 * p + 6)) ∧ R (9426 + 13 * p + 7) = nI (nn R (9426 + 13 * p + 7)) ∧ R (9426 + 13 * p + 8) = nI (nn R (9426 + 13 * p + 8)) ∧ nn R (9426 + 13 * p + 8) ≤ nn R (9426 + 13 * p + 7) ∧ nn R (9426 + 13 * p + 6) + nn R (9426 + 13 * p + 7) ≤ nn R 4 := by
  have n4 := hR.1.2.2.2.2.2
  obtain ⟨-, -, -, -, f, m, e, h1, h2, h3, h4, h5⟩ := hR.2.2.2.2.1 p hp
  have ef : nn R (9426 + 13 * p + 6) = f := by unfold nn; rw [h1, nI_clamp (by omega)]
  have em : nn R (9426 + 13 * p + 7) = m := by unfold nn; rw [h2, nI_clamp (by omega)]
  have ee : nn R (9426 + 13 * p + 8) = e := by unfold nn; rw [h3, nI_clamp (by omega)]
  rw [ef, em, ee]
  exact ⟨h1, h2, h3, h4, h5⟩
theorem goS_lt (hR : WF R) (hp : p < nn R 3) (hg : nn R (9426 + 13 * p + 8) < nn R (9426 + 13 * p + 7)) : goI R p < nn R 4 ∧ goS R p < nn R 1 := by
  obtain ⟨-, -, -, -, h5⟩ := wp_prt hR hp
  have h : goI R p < nn R 4 := by
    show nn R (9426 + 13 * p + 6) + nn R (9426 + 13 * p + 8) < nn R 4
    omega
  exact ⟨h, (wd_at hR h).1⟩
theorem clR_wf (hR : WF R) (ht : t < nn R 1) : WF (clR R t) := by
  have h1 := wf_upS (k := 2) (v := clN R t) hR ht (by decide) (fun q => by omega) (fun q => by omega)
  exact wf_upS (k := 0) h1 (by rw [nn_up (by omega)]; exact ht) (by decide) (fun q => by omega) (fun q => by omega)
theorem goC_wf (hR : WF R) (hp : p < nn R 3) (hg : nn R (9426 + 13 * p + 8) < nn R (9426 + 13 * p + 7)) : WF (goC R p) := by
  unfold goC
  split
  · exact clR_wf hR (goS_lt hR hp hg).2
  · exact hR
theorem nn_eq (h : R' k = R k) : nn R' k = nn R k := by
  unfold nn
  rw [h]
theorem goP_wf (hR : WF R) (hp : p < nn R 3) (hg : nn R (9426 + 13 * p + 8) < nn R (9426 + 13 * p + 7)) : WF (goP R p) := by
  have n1 := hR.1.2.1.2
  have n3 := hR.1.2.2.2.1.2
  have n4 := hR.1.2.2.2.2.2
  have gs := goS_lt hR hp hg
  have w0 := goC_wf hR hp hg
  obtain ⟨a1, a2, a3, a4, a5⟩ := wp_prt hR hp
  have e : ∀ j, (∀ t, t < 150 → j ≠ 16 + 9 * t + 2 ∧ j ≠ 16 + 9 * t) → goC R p j = R j := fun j hj => goC_n hj (by omega)
  have e3 : nn (goC R p) 3 = nn R 3 := nn_eq (e 3 (fun t _ => by omega))
  have w1 := wf_upP (k := 11) (v := R (9426 + 13 * p + 11) + (if 1 < psN R p (goI R p) then 1 else 0)) w0 (by rw [e3]; exact hp) (by decide) (fun q => by omega)
  have w2 := wf_upP (k := 9) (v := goM R p) w1 (by rw [nn_up (by omega), e3]; exact hp) (by decide) (fun q => by omega)
  have w3 := wf_upP (k := 12) (v := R (9426 + 13 * p + 12) + (if goM R p ≤ R (9426 + 13 * p + 1) then 0 else 1)) w2 (by rw [nn_up (by omega), nn_up (by omega), e3]; exact hp) (by decide) (fun q => by omega)
  refine wf_upP (k := 8) w3 (by rw [nn_up (by omega), nn_up (by omega), nn_up (by omega), e3]; exact hp) (by decide) (fun _ => ?_)
  rw [a3, nI_1, nn_up (by omega), nn_up (by omega), nn_up (by omega), nn_eq (e (9426 + 13 * p + 7) (fun t _ => by omega)), nI_clamp (by omega)]
  exact ⟨rfl, by omega⟩
theorem rdpR {β : Type} {Q : β → Prop} {g : Int32 → Option β} {x : Int32} {p : Nat} (hK : KS sh z) (hA : AG (d.1 (z + 243)) R) (k : Nat) (hp : p < 12) (hk : k < 13) (hx : x = nI k) (kk : Rn (g (R (9426 + 13 * p + k))) Q) : Rn ((gP sh (z + 242) 12 0).bind fun v1 => (aT 0 sh d v1 ((9426 : Int32) + (13 : Int32) * nI p + x)).bind g) Q := by
  subst hx
  exact rdg hK hA (9426 + 13 * p + k) (ix_pl p k) (by omega) kk
/-- the PLOUGH's cells behind a DRIVE -/
theorem go_218 {l5 l6 : Int32} (hR : WF R) (hK : KS sh z) (hp : p < nn R 3) (hg : nn R (9426 + 13 * p + 8) < nn R (9426 + 13 * p + 7)) (hM : MFR z d0 d) (hI : RI d z (va_up (goC R p) (9426 + 13 * p + 11) (R (9426 + 13 * p + 11) + (if 1 < psN R p (goI R p) then 1 else 0))) K u) (hl : (if l5 ≤ 0 then l6 else l5 * l6) = nI (max 1 (psN R p (goI R p)) * tkR R p (sln R (goS R p)))) : Rn (f_X12_goesOn_218 N sh (z + 242) ((9426 : Int32) + (13 : Int32) * nI p) l5 l6 d) (fun d' => MFR z d0 d' ∧ RI d' z (goP R p) K u) := by
  have n1 := hR.1.2.1.2
  have n3 := hR.1.2.2.2.1.2
  have gs := goS_lt hR hp hg
  have w0 := (goC_wf hR hp hg).1
  have e : ∀ j, (∀ t, t < 150 → j ≠ 16 + 9 * t + 2 ∧ j ≠ 16 + 9 * t) → goC R p j = R j := fun j hj => goC_n hj (by omega)
  have w1 := wn_up (j := 9426 + 13 * p + 11) (v := R (9426 + 13 * p + 11) + (if 1 < psN R p (goI R p) then 1 else 0)) w0 (by omega)
  have ha := ks_a hK 243 0 15642 rfl
  have stp : ∀ x, x = (if l5 ≤ 0 then l6 else l5 * l6) → Rn (f_X12_goesOn_243 N sh (z + 242) ((9426 : Int32) + (13 : Int32) * nI p) (z + 243) ((9426 : Int32) + (13 : Int32) * nI p + 9) (R (9426 + 13 * p + 9)) x d) (fun d' => MFR z d0 d' ∧ RI d' z (goP R p) K u) := fun x hx => by
    unfold f_X12_goesOn_243 f_X12_goesOn_280
    rw [hx, hl, show R (9426 + 13 * p + 9) + nI (max 1 (psN R p (goI R p)) * tkR R p (sln R (goS R p))) = goM R p from rfl]
    refine rn_eq (q_sI ha (9426 + 13 * p + 9) (ix_pl p 9) (by omega) (by decide)) ?_
    have r2 := ri_cellG (j := 9426 + 13 * p + 9) (v := goM R p) hI w1 (by omega) (fun s k _ q1 q2 => by omega)
    have w2 := wn_up (j := 9426 + 13 * p + 9) (v := goM R p) w1 (by omega)
    refine r_gP hK 242 12 0 243 rfl (by decide) ?_
    refine rn_eq (q_aT ha (9426 + 13 * p + 12) (ix_pl p 12) (by omega) (by decide)) ?_
    rw [r2.1 _ (by omega), va_up_n (by omega), va_up_n (by omega), e _ (fun t _ => by omega)]
    refine rdpR hK r2.1 9 (by omega) (by decide) rfl ?_
    rw [va_up_s]
    refine rdpR hK r2.1 1 (by omega) (by decide) rfl ?_
    rw [va_up_n (by omega), va_up_n (by omega), e _ (fun t _ => by omega)]
    have fin : ∀ o, o = (if goM R p ≤ R (9426 + 13 * p + 1) then (0 : Int32) else 1) → Rn ((sI sh (wI d (z + 243) (9426 + 13 * p + 9) (goM R p)) (z + 243) ((9426 : Int32) + (13 : Int32) * nI p + 12) (R (9426 + 13 * p + 12) + o)).bind fun d44 => (gP sh (z + 242) 12 0).bind fun v45 => (aT 0 sh d44 v45 ((9426 : Int32) + (13 : Int32) * nI p + (8 : Int32))).bind fun v46 => (sI sh d44 v45 ((9426 : Int32) + (13 : Int32) * nI p + (8 : Int32)) (v46 + (1 : Int32))).bind fun d47 => some d47) (fun d' => MFR z d0 d' ∧ RI d' z (goP R p) K u) := fun o ho => by
      refine rn_eq (q_sI ha (9426 + 13 * p + 12) (ix_pl p 12) (by omega) (by decide)) ?_
      have r3 := ri_cellG (j := 9426 + 13 * p + 12) (v := R (9426 + 13 * p + 12) + o) r2 w2 (by omega) (fun s k _ q1 q2 => by omega)
      have w3 := wn_up (j := 9426 + 13 * p + 12) (v := R (9426 + 13 * p + 12) + o) w2 (by omega)
      refine r_gP hK 242 12 0 243 rfl (by decide) ?_
      refine rn_eq (q_aT ha (9426 + 13 * p + 8) (ix_pl p 8) (by omega) (by decide)) ?_
      rw [r3.1 _ (by omega), va_up_n (by omega), va_up_n (by omega), va_up_n (by omega), e _ (fun t _ => by omega)]
      refine rn_eq (q_sI ha (9426 + 13 * p + 8) (ix_pl p 8) (by omega) (by decide)) (rn_some ⟨?_, ?_⟩)
      · exact hM.tr ((MFR.wI (by decide) (by decide)).tr ((MFR.wI (by decide) (by decide)).tr (MFR.wI (by decide) (by decide))))
      · have r4 := ri_cellG (j := 9426 + 13 * p + 8) (v := R (9426 + 13 * p + 8) + 1) r3 w3 (by omega) (fun s k _ q1 q2 => by omega)
        rw [ho] at r4 ⊢
        exact r4
    refine rn_ite (fun h => ?_) (fun h => ?_)
    · exact fin 0 (if_pos h).symm
    · exact fin 1 (if_neg h).symm
  unfold f_X12_goesOn_218
  refine r_gP hK 242 12 0 243 rfl (by decide) ?_
  refine rn_eq (q_aT ha (9426 + 13 * p + 9) (ix_pl p 9) (by omega) (by decide)) ?_
  rw [hI.1 _ (by omega), va_up_n (by omega), e _ (fun t _ => by omega)]
  exact rn_ite (fun h => stp _ (if_pos h).symm) (fun h => stp _ (if_neg h).symm)
theorem m_goesOn (hR : WF R) (hK : KS sh z) (hp : p < nn R 3) (hg : nn R (9426 + 13 * p + 8) < nn R (9426 + 13 * p + 7)) (hI : RI d z R K u) : Rn (f_X12_goesOn N sh (z + 242) (nI p) d) (fun d' => MFR z d d' ∧ RI d' z (goP R p) K u) := by
  have hN := hR.1
  have n1 := hN.2.1.2
  have n3 := hN.2.2.2.1.2
  have n4 := hN.2.2.2.2.2
  have hW := wpk_of hR
  obtain ⟨gi, gt⟩ := goS_lt hR hp hg
  obtain ⟨a1, a2, a3, a4, a5⟩ := wp_prt hR hp
  obtain ⟨w1, w2, w3⟩ := wd_at hR gi
  obtain ⟨-, ⟨l1, l2, l3⟩, -⟩ := hR.2.2.1 _ gt
  have sb := psN_le (R := R) (p := p) (i := goI R p)
  have tb := tkR_b (R := R) (p := p) l3
  have ha := ks_a hK 243 0 15642 rfl
  have e1 : R (9642 + 3 * goI R p + 2) = 1 → psN R p (goI R p) = (psR R p (R (16 + 9 * goS R p + 0))).toNatClampNeg := fun q => if_pos q
  unfold f_X12_goesOn
  refine rn_t (ks_o hK 242 12 rfl) ?_
  refine rn_eq (m_pl hK) ?_
  refine rdpR hK hI.1 6 (by omega) (by decide) rfl ?_
  rw [a1]
  refine rdpR hK hI.1 8 (by omega) (by decide) rfl ?_
  rw [a3, nI_add]
  refine rdd0 hK hI.1 (i := goI R p) (by omega) ?_
  rw [w2]
  refine rn_eq (m_st hK) ?_
  refine rdd hK hI.1 (i := goI R p) (by omega) 2 (by decide) rfl ?_
  /- behind the asking -/
  have fin : ∀ (t0 : Int32) d1, RG z d d1 → ((R (9642 + 3 * goI R p + 2) = 1 ∧ t0 = nI (psN R p (goI R p))) ∨ (R (9642 + 3 * goI R p + 2) = 0 ∧ t0 = -1)) → Rn (f_X12_goesOn_79 N sh (z + 242) (nI p) ((9426 : Int32) + (13 : Int32) * nI p) ((16 : Int32) + (9 : Int32) * nI (goS R p)) t0 d1) (fun d' => MFR z d d' ∧ RI d' z (goP R p) K u) := fun t0 d1 hd1 ht => by
    have hI1 := ri_rg hI hd1
    unfold f_X12_goesOn_79
    refine rst hK hI1.1 6 (by omega) (by decide) rfl ?_
    rw [l1]
    refine rn_bind (m_takes hK hN hW hI1.1 hp l3 l2) (fun r hr => ?_)
    rw [hr.1]
    have hd2 := hd1.tr hr.2
    have hI2 := ri_rg hI1 hr.2
    have id11 : ∀ x : Int32, x = 0 → va_up R (9426 + 13 * p + 11) (R (9426 + 13 * p + 11) + x) = R := fun x hx => up_id (by rw [hx]; exact Int32.add_zero _)
    rcases ht with ⟨h1, rfl⟩ | ⟨h1, rfl⟩
    · by_cases h0 : psN R p (goI R p) = 0
      · refine rn_f (fun q => q (by rw [h0]; rfl)) ?_
        refine rn_bind (m_finds hK) (fun d3 hd3 => ?_)
        unfold f_X12_goesOn_109
        refine rn_t (by rw [h0]; decide) ?_
        have hI3 := ri_rg hI2 hd3
        refine go_218 hR hK hp hg (hd2.tr hd3).mfr ?_ ?_
        · have eC : goC R p = R := if_neg (fun q => q.2 h0)
          rw [eC, id11 _ (by rw [h0]; rfl)]
          exact hI3
        · rw [h0, if_pos (by decide), Nat.max_eq_left (by omega), Nat.one_mul]
      · refine rn_t (nI_ne0 (by omega) (by omega)) ?_
        unfold f_X12_goesOn_109
        refine rn_f (nI_nle (by omega) (by omega)) ?_
        have eC : goC R p = clR R (goS R p) := if_pos ⟨h1, h0⟩
        have c150 : goS R p < 150 := by omega
        refine r_gP hK 242 12 0 243 rfl (by decide) ?_
        refine rn_eq (q_aT ha (16 + 9 * goS R p + 2) (ix_st (goS R p) 2) (by omega) (by decide)) ?_
        rw [hI2.1 _ (by omega)]
        refine rst hK hI2.1 2 c150 (by decide) rfl ?_
        refine rst hK hI2.1 3 c150 (by decide) rfl ?_
        have wa := wn_up (j := 16 + 9 * goS R p + 2) (v := clN R (goS R p)) hN (by omega)
        have wb := wn_up (j := 16 + 9 * goS R p + 0) (v := if clN R (goS R p) < R (16 + 9 * goS R p + 3) then R (16 + 9 * goS R p + 0) else 0) wa (by omega)
        have stp : ∀ o, o = (if R (16 + 9 * goS R p + 2) < R (16 + 9 * goS R p + 3) then (1 : Int32) else 0) → Rn (f_X12_goesOn_150 N sh (z + 242) ((9426 : Int32) + (13 : Int32) * nI p) ((16 : Int32) + (9 : Int32) * nI (goS R p)) (nI (psN R p (goI R p))) (nI (tkR R p (sln R (goS R p)))) (z + 243) ((16 : Int32) + (9 : Int32) * nI (goS R p) + 2) (R (16 + 9 * goS R p + 2)) o r.2) (fun d' => MFR z d d' ∧ RI d' z (goP R p) K u) := fun o ho => by
          have ec : R (16 + 9 * goS R p + 2) + o = clN R (goS R p) := by
            rw [ho]
            rfl
          unfold f_X12_goesOn_150 f_X12_goesOn_194 f_X12_goesOn_216
          rw [ec]
          refine rn_eq (q_sI ha (16 + 9 * goS R p + 2) (ix_st (goS R p) 2) (by omega) (by decide)) ?_
          have r1 := ri_cellG (j := 16 + 9 * goS R p + 2) (v := clN R (goS R p)) hI2 hN (by omega) (fun s k _ q1 q2 => by omega)
          refine r_gP hK 242 12 0 243 rfl (by decide) ?_
          refine rst hK r1.1 2 c150 (by decide) rfl ?_
          rw [va_up_s]
          refine rst hK r1.1 3 c150 (by decide) rfl ?_
          rw [va_up_n (by omega)]
          have fin2 : ∀ w, w = (if clN R (goS R p) < R (16 + 9 * goS R p + 3) then R (16 + 9 * goS R p + 0) else 0) → Rn ((sI sh (wI r.2 (z + 243) (16 + 9 * goS R p + 2) (clN R (goS R p))) (z + 243) ((16 : Int32) + (9 : Int32) * nI (goS R p) + 0) w).bind fun d41 => (gP sh (z + 242) 12 0).bind fun v42 => (aT 0 sh d41 v42 ((9426 : Int32) + (13 : Int32) * nI p + (11 : Int32))).bind fun v43 => if nI (psN R p (goI R p)) ≤ (1 : Int32) then ((sI sh d41 v42 ((9426 : Int32) + (13 : Int32) * nI p + (11 : Int32)) (v43 + 0)).bind fun d48 => f_X12_goesOn_218 N sh (z + 242) ((9426 : Int32) + (13 : Int32) * nI p) (nI (psN R p (goI R p))) (nI (tkR R p (sln R (goS R p)))) d48) else ((sI sh d41 v42 ((9426 : Int32) + (13 : Int32) * nI p + (11 : Int32)) (v43 + 1)).bind fun d48 => f_X12_goesOn_218 N sh (z + 242) ((9426 : Int32) + (13 : Int32) * nI p) (nI (psN R p (goI R p))) (nI (tkR R p (sln R (goS R p)))) d48)) (fun d' => MFR z d d' ∧ RI d' z (goP R p) K u) := fun w hw => by
            refine rn_eq (q_sI ha (16 + 9 * goS R p + 0) (ix_st (goS R p) 0) (by omega) (by decide)) ?_
            have r2 := ri_cellG (j := 16 + 9 * goS R p + 0) (v := w) r1 wa (by omega) (fun s k _ q1 q2 => by omega)
            refine r_gP hK 242 12 0 243 rfl (by decide) ?_
            refine rn_eq (q_aT ha (9426 + 13 * p + 11) (ix_pl p 11) (by omega) (by decide)) ?_
            rw [r2.1 _ (by omega), va_up_n (by omega), va_up_n (by omega)]
            have hl : (if nI (psN R p (goI R p)) ≤ 0 then nI (tkR R p (sln R (goS R p))) else nI (psN R p (goI R p)) * nI (tkR R p (sln R (goS R p)))) = nI (max 1 (psN R p (goI R p)) * tkR R p (sln R (goS R p))) := by
              rw [if_neg (nI_nle (by omega) (by omega)), pk_mul, Nat.max_eq_right (by omega)]
            have last : ∀ o2, o2 = (if 1 < psN R p (goI R p) then (1 : Int32) else 0) → Rn ((sI sh (wI (wI r.2 (z + 243) (16 + 9 * goS R p + 2) (clN R (goS R p))) (z + 243) (16 + 9 * goS R p + 0) w) (z + 243) ((9426 : Int32) + (13 : Int32) * nI p + (11 : Int32)) (R (9426 + 13 * p + 11) + o2)).bind fun d48 => f_X12_goesOn_218 N sh (z + 242) ((9426 : Int32) + (13 : Int32) * nI p) (nI (psN R p (goI R p))) (nI (tkR R p (sln R (goS R p)))) d48) (fun d' => MFR z d d' ∧ RI d' z (goP R p) K u) := fun o2 ho2 => by
              refine rn_eq (q_sI ha (9426 + 13 * p + 11) (ix_pl p 11) (by omega) (by decide)) ?_
              have r3 := ri_cellG (j := 9426 + 13 * p + 11) (v := R (9426 + 13 * p + 11) + o2) r2 (wn_up wa (by omega)) (by omega) (fun s k _ q1 q2 => by omega)
              refine go_218 hR hK hp hg (hd2.mfr.tr ((MFR.wI (by decide) (by decide)).tr ((MFR.wI (by decide) (by decide)).tr (MFR.wI (by decide) (by decide))))) ?_ hl
              rw [eC]
              rw [hw, ho2] at r3
              rw [hw, ho2]
              exact r3
            refine rn_ite (fun h5 => last 0 ?_) (fun h5 => last 1 ?_)
            · have := (nI_leI (b := 1) (by omega) (by decide)).mp h5
              rw [if_neg (by omega)]
            · have : ¬ psN R p (goI R p) ≤ 1 := fun q => h5 (nI_le (b := 1) q (by decide))
              rw [if_pos (by omega)]
          refine rn_ite (fun h4 => ?_) (fun h4 => ?_)
          · refine rst hK r1.1 0 c150 (by decide) rfl ?_
            rw [va_up_n (by omega)]
            exact fin2 _ (if_pos h4).symm
          · exact fin2 _ (if_neg h4).symm
        refine rn_ite (fun h3 => ?_) (fun h3 => ?_)
        · exact stp 0 (if_neg (Int32.not_lt.mpr h3)).symm
        · exact stp 1 (if_pos (Int32.not_le.mp h3)).symm
    · refine rn_t (by decide) ?_
      unfold f_X12_goesOn_109
      refine rn_t (by decide) ?_
      have hne : ¬ R (9642 + 3 * goI R p + 2) = 1 := by rw [h1]; decide
      have ep : psN R p (goI R p) = 1 := if_neg hne
      refine go_218 hR hK hp hg hd2.mfr ?_ ?_
      · have eC : goC R p = R := if_neg (fun q => hne q.1)
        rw [eC, id11 _ (by rw [ep]; rfl)]
        exact hI2
      · rw [ep, if_pos (by decide)]
        rw [Nat.max_self, Nat.one_mul]
  rcases w3 with h1 | h1
  · refine rn_f (fun q => q h1) ?_
    exact fin _ d RG.rf (Or.inr ⟨h1, rfl⟩)
  · refine rn_t (by rw [h1]; decide) ?_
    refine rst hK hI.1 0 (by omega) (by decide) rfl ?_
    refine rn_bind (m_passes hK hN hW hI.1 hp) (fun r hr => ?_)
    have e2 := psR_nI (R := R) (p := p) (v := R (16 + 9 * goS R p + 0))
    rw [← e1 h1] at e2
    rw [hr.1, e2]
    exact fin _ r.2 hr.2 (Or.inl ⟨h1, rfl⟩)
end GO
/-! 9r.gok.lean.txt -/
/-! go() of both -/
def gok (R : Nat → Int32) (p k : Nat) : Prop := ∀ j, j < k → gst (goF R p j) p
section GOK
variable {s s' s0 s1 : AS} {sh : Sh} {d d' d0 : Dt} {z : Nat} {ow ow' : Nat → Nat} {R R' K : Nat → Int32} {u : Bool} {y y1 : YL} {c N p k l a i t n : Nat} {q q' : BL} {v : Int32} {yy : BL × (Nat → Nat) × Nat × Nat}
theorem goF_ok (hR : WF R) (hp : p < nn R 3) : ∀ k, gok R p k → WF (goF R p k) ∧ nn (goF R p k) 3 = nn R 3
  | 0, _ => ⟨hR, rfl⟩
  | k + 1, h => by
    obtain ⟨h1, h2⟩ := goF_ok hR hp k (fun j hj => h j (by omega))
    have hg := h k (Nat.lt_succ_self k)
    have hp2 : p < nn (goF R p k) 3 := by rw [h2]; exact hp
    have gs := (goS_lt h1 hp2 hg.1).2
    have n1 := h1.1.2.1.2
    refine ⟨goP_wf h1 hp2 hg.1, ?_⟩
    rw [← h2]
    show nn (goP (goF R p k) p) 3 = _
    exact nn_eq (goP_n (fun t _ => by omega) (by omega) (by omega))
theorem gok_s (h : gok R p k) (hg : gst (goF R p k) p) : gok R p (k + 1) := fun j hj => by
  by_cases e : j = k
  · rw [e]
    exact hg
  · exact h j (by omega)
theorem m_shutA (hR : WF R) (hK : KS sh z) (hA : AG (d.1 (z + 243)) R) (hp : p < nn R 3) (hg : nn R (9426 + 13 * p + 8) < nn R (9426 + 13 * p + 7)) : f_X12_isShutAhead N sh (z + 242) (nI p) d = some (if R (16 + 9 * goS R p + 4) = 0 then 0 else 1) := by
  have n1 := hR.1.2.1.2
  have n3 := hR.1.2.2.2.1.2
  have n4 := hR.1.2.2.2.2.2
  obtain ⟨gi, gt⟩ := goS_lt hR hp hg
  obtain ⟨a1, a2, a3, a4, a5⟩ := wp_prt hR hp
  obtain ⟨w1, w2, w3⟩ := wd_at hR gi
  refine rn_val ?_
  unfold f_X12_isShutAhead f_X12_isShutAhead_52
  refine rn_t (ks_o hK 242 12 rfl) ?_
  refine rdpl hK hA 6 (by omega) (by decide) rfl ?_
  refine rdpl hK hA 8 (by omega) (by decide) rfl ?_
  rw [a1, a3, nI_add]
  refine rdd0 hK hA (i := goI R p) (by omega) ?_
  rw [w2]
  refine rn_eq (m_isOpen hK hA (by omega)) ?_
  by_cases h : R (16 + 9 * goS R p + 4) = 0
  · rw [if_pos h, if_pos h]
    exact rn_t (by decide) ⟨0, rfl, rfl⟩
  · rw [if_neg h, if_neg h]
    exact rn_f (fun q => q rfl) ⟨1, rfl, rfl⟩
theorem mgo_loop (hNf : 15642 < N) (hK : KS sh z) (hR : WF R) (hp : p < nn R 3) : ∀ (m k fu : Nat) (d : Dt), k + m = n → n ≤ 50 → m + 1 < fu → gok R p k → MFR z d0 d → RI d z (goF R p k) (if k = 0 then K else R) (if k = 0 then u else true) → Rn (f_X12_go_84 N sh fu (z + 242) (nI p) (nI n) ((9426 : Int32) + (13 : Int32) * nI p) (nI k) 1 d) (RO z R K u (goO R p (goN R p m k)) d0)
  | m, k, fu, d, hk, hn, hf, ho, hM, hI => by
    obtain ⟨fu, rfl⟩ : ∃ q, fu = q + 1 := ⟨fu - 1, by omega⟩
    have n3 := hR.1.2.2.2.1.2
    obtain ⟨hw, e3⟩ := goF_ok hR hp k ho
    have n4 := hw.1.2.2.2.2.2
    have hp2 : p < nn (goF R p k) 3 := by rw [e3]; exact hp
    obtain ⟨a1, a2, a3, a4, a5⟩ := wp_prt hw hp2
    have fin : ∀ d1, MFR z d0 d1 → RI d1 z (goF R p k) (if k = 0 then K else R) (if k = 0 then u else true) → Rn (f_X12_go_166 N sh (z + 242) (nI k) d1) (RO z R K u (goO R p k) d0) := fun d1 hM1 hI1 => by
      unfold f_X12_go_166
      refine rn_eq (m_says hK) (rn_some ⟨rfl, hM1.tr (MFR.wI (by decide) (by decide)), ?_⟩)
      have r := ri_rg hI1 (RG.w242 (k := 3) (v := 0) (Or.inl rfl))
      unfold goO
      by_cases h0 : k = 0
      · subst h0
        rw [if_pos rfl, if_pos rfl] at r
        exact r
      · rw [if_neg h0, if_neg h0] at r
        simp only [if_neg h0]
        exact r
    show Rn (g_X12_go_84 N sh (f_X12_go_84 N sh fu) (z + 242) (nI p) (nI n) ((9426 : Int32) + (13 : Int32) * nI p) (nI k) 1 d) _
    unfold g_X12_go_84
    refine rn_f (by decide) ?_
    cases m with
    | zero =>
      refine rn_t (nI_le (by omega) (by omega)) ?_
      exact fin d hM hI
    | succ m =>
      refine rn_f (nI_ge (by omega) (by omega)) ?_
      refine rdpR hK hI.1 8 (by omega) (by decide) rfl ?_
      refine rdpR hK hI.1 7 (by omega) (by decide) rfl ?_
      rw [a2, a3]
      refine rn_ite (fun h1 => ?_) (fun h1 => ?_)
      · have hn : ¬ gst (goF R p k) p := fun q => by
          have := (nI_leI (by omega) (by omega)).mp h1
          have := q.1
          omega
        rw [show goN R p (m + 1) k = k from if_neg hn]
        exact fin d hM hI
      have hg1 : nn (goF R p k) (9426 + 13 * p + 8) < nn (goF R p k) (9426 + 13 * p + 7) := by
        rcases Nat.lt_or_ge (nn (goF R p k) (9426 + 13 * p + 8)) (nn (goF R p k) (9426 + 13 * p + 7)) with q | q
        · exact q
        · exact absurd (nI_le q (by omega)) h1
      refine r_gI hK (i := 242) (c := 12) rfl ?_
      refine r_pI hK (i := 242) (c := 12) rfl ?_
      have g5 : ∀ w, RG z d (wI d (z + 242) 5 w) := fun w => RG.w242 (Or.inr (Or.inr rfl))
      have hI1 := ri_rg hI (g5 (d.1 (z + 242) 5 + 1))
      have hM1 := hM.tr (g5 (d.1 (z + 242) 5 + 1)).mfr
      refine rn_eq (m_shutA hw hK hI1.1 hp2 hg1) ?_
      unfold f_X12_go_139 f_X12_go_155
      by_cases h2 : goF R p k (16 + 9 * goS (goF R p k) p + 4) = 0
      · have hg : gst (goF R p k) p := ⟨hg1, h2⟩
        rw [if_pos h2, show goN R p (m + 1) k = goN R p m (k + 1) from if_pos hg]
        refine rn_f (fun q => q rfl) ?_
        refine rn_f (by decide) ?_
        have ih := mgo_loop hNf hK hR hp m (k + 1) fu
        have stp : ∀ d2, MFR z d0 d2 → RI d2 z (goF R p k) R true → Rn ((f_X12_goesOn N sh (z + 242) (nI p) d2).bind fun v22 => f_X12_go_84 N sh fu (z + 242) (nI p) (nI n) ((9426 : Int32) + (13 : Int32) * nI p) (nI k + 1) 1 v22) (RO z R K u (goO R p (goN R p m (k + 1))) d0) := fun d2 hM2 hI2 => by
          refine rn_bind (m_goesOn hw hK hp2 hg1 hI2) (fun d3 hd3 => ?_)
          rw [nI_1]
          refine ih d3 (by omega) hn (by omega) (gok_s ho hg) (hM2.tr hd3.1) ?_
          rw [if_neg (Nat.succ_ne_zero k), if_neg (Nat.succ_ne_zero k)]
          exact hd3.2
        by_cases hk0 : k = 0
        · subst hk0
          refine rn_f (fun q => q rfl) ?_
          rw [if_pos rfl, if_pos rfl] at hI1
          refine rn_bind (ri_keeps hI1 hK hNf) (fun d2 hd2 => ?_)
          exact stp d2 (hM1.tr hd2.2) hd2.1
        · refine rn_t (nI_ne0 (by omega) (by omega)) ?_
          rw [if_neg hk0, if_neg hk0] at hI1
          exact stp _ hM1 hI1
      · rw [if_neg h2, show goN R p (m + 1) k = k from if_neg (fun q => h2 q.2)]
        refine rn_t (by decide) ?_
        refine rn_t rfl ?_
        obtain ⟨fu, rfl⟩ : ∃ q, fu = q + 1 := ⟨fu - 1, by omega⟩
        show Rn (g_X12_go_84 N sh (f_X12_go_84 N sh fu) (z + 242) (nI p) (nI n) ((9426 : Int32) + (13 : Int32) * nI p) (nI k) 0 _) _
        unfold g_X12_go_84
        exact rn_t rfl (fin _ hM1 hI1)
theorem m_go {x w : Int32} (hNf : 15642 < N) (hK : KS sh z) (h : RI d z R K u) (hR : WF R) : Rn (f_X12_go N sh (z + 242) x w d) (RO z R K u (sp_go R x w) d) := by
  have hN := hR.1
  have n3 := hN.2.2.2.1.2
  have n4 := hN.2.2.2.2.2
  have bad : (x < 0 ∨ nI (nn R 3) ≤ x) ∨ (w < 1 ∨ 50 < w) → Rn (f_X12_go_18 N sh (z + 242) d) (RO z R K u (sp_go R x w) d) := fun hb => by
    rw [show sp_go R x w = _ from if_pos hb]
    exact ro_refuses hK h rfl
  unfold f_X12_go
  refine rn_t (ks_o hK 242 12 rfl) ?_
  refine rn_eq (ri_isPlough hK h hN) ?_
  refine rn_ite (fun h1 => bad (Or.inl (ite01.mp h1))) (fun h1 => ?_)
  refine rn_eq m_in ?_
  refine rn_ite (fun h2 => ?_) (fun h2 => bad (Or.inr (ite01.mp (Decidable.of_not_not h2))))
  have h1 : ¬ (x < 0 ∨ nI (nn R 3) ≤ x) := fun q => h1 (ite01.mpr q)
  have h2 : ¬ (w < 1 ∨ 50 < w) := fun q => h2 (ite01.mpr q)
  rw [show sp_go R x w = _ from if_neg (fun q => q.elim h1 h2)]
  obtain ⟨p, hp, rfl, e1⟩ := st_of (by omega) h1
  obtain ⟨n, hn, rfl, e2⟩ := st_of (x := w) (n := 51) (by decide) (fun q => q.elim (fun q => h2 (Or.inl (Int32.lt_of_lt_of_le q (by decide)))) (fun q => h2 (Or.inr ((lt_pred (n := 51) (by decide)).mpr q))))
  rw [e1, e2]
  obtain ⟨a1, a2, a3, a4, a5⟩ := wp_prt hR hp
  refine rn_eq (m_pl hK) ?_
  refine rdpR hK h.1 2 (by omega) (by decide) rfl ?_
  by_cases h3 : R (9426 + 13 * p + 2) = 1
  · refine rn_f (fun q => q h3) ?_
    rw [if_pos h3]
    exact ro_refuses hK h rfl
  refine rn_t h3 ?_
  rw [show (if R (9426 + 13 * p + 2) = 1 then ((-4 : Int32), (none : Option (Nat → Int32))) else if nn R (9426 + 13 * p + 8) < nn R (9426 + 13 * p + 7) then goO R p (goN R p n 0) else (-8, none)) = _ from if_neg h3]
  refine rdpR hK h.1 8 (by omega) (by decide) rfl ?_
  refine rdpR hK h.1 7 (by omega) (by decide) rfl ?_
  rw [a2, a3]
  by_cases h4 : nn R (9426 + 13 * p + 8) < nn R (9426 + 13 * p + 7)
  · refine rn_t (nI_lt h4 (by omega)) ?_
    rw [if_pos h4]
    exact mgo_loop hNf hK hR hp n 0 N d (by omega) (by omega) (by omega) (fun j hj => absurd hj (Nat.not_lt_zero j)) MFR.rf h
  · refine rn_f (fun q => h4 ((nI_ltI (by omega) (by omega)).mp q)) ?_
    rw [if_neg h4]
    exact ro_refuses hK h rfl
/-! the class -/
theorem k_next (hR : WF R) (hK : KS sh z) (hB : BK sh d z ow 3 R q) (hp : p < nn R 3) : f_X1_nextDrive N sh (z + 3) (nI p) d = some (nI (goI R p)) := by
  obtain ⟨a1, a2, a3, a4, a5⟩ := wp_prt hR hp
  refine rn_val ?_
  unfold f_X1_nextDrive
  refine rn_t (ks_o hK 3 1 rfl) ?_
  refine r_gP hK 3 1 3 20 rfl (by decide) ?_
  refine rn_eq (tb_get (o := 20) (nc := 9) (c := 0) hK (by decide) hB.2.2.2.1 rfl hp rfl (by decide)) ?_
  have e0 : vP R 0 p = R (9426 + 13 * p + 6) := rfl
  refine r_gP hK 3 1 3 20 rfl (by decide) ?_
  refine rn_eq (tb_get (o := 20) (nc := 9) (c := 2) hK (by decide) hB.2.2.2.1 rfl hp rfl (by decide)) ?_
  have e2 : vP R 2 p = R (9426 + 13 * p + 8) := rfl
  rw [e0, e2, a1, a3]
  exact rn_some (nI_add _ _)
theorem k_left (hR : WF R) (hK : KS sh z) (hB : BK sh d z ow 3 R q) (hp : p < nn R 3) : f_X1_hasDriveLeft N sh (z + 3) (nI p) d = some (if nn R (9426 + 13 * p + 8) < nn R (9426 + 13 * p + 7) then 1 else 0) := by
  have n4 := hR.1.2.2.2.2.2
  obtain ⟨a1, a2, a3, a4, a5⟩ := wp_prt hR hp
  refine rn_val ?_
  unfold f_X1_hasDriveLeft f_X1_hasDriveLeft_26
  refine rn_t (ks_o hK 3 1 rfl) ?_
  refine r_gP hK 3 1 3 20 rfl (by decide) ?_
  refine rn_eq (tb_get (o := 20) (nc := 9) (c := 2) hK (by decide) hB.2.2.2.1 rfl hp rfl (by decide)) ?_
  have e2 : vP R 2 p = R (9426 + 13 * p + 8) := rfl
  refine r_gP hK 3 1 3 20 rfl (by decide) ?_
  refine rn_eq (tb_get (o := 20) (nc := 9) (c := 1) hK (by decide) hB.2.2.2.1 rfl hp rfl (by decide)) ?_
  have e1 : vP R 1 p = R (9426 + 13 * p + 7) := rfl
  rw [e1, e2, a2, a3]
  by_cases h : nn R (9426 + 13 * p + 8) < nn R (9426 + 13 * p + 7)
  · rw [if_pos h]
    exact rn_f (nI_ge h (by omega)) ⟨1, rfl, rfl⟩
  · rw [if_neg h]
    exact rn_t (nI_le (by omega) (by omega)) ⟨0, rfl, rfl⟩
theorem k_nshut (hR : WF R) (hK : KS sh z) (hB : BK sh d z ow 3 R q) (hp : p < nn R 3) (hg : nn R (9426 + 13 * p + 8) < nn R (9426 + 13 * p + 7)) : f_X1_isNextShut N sh (z + 3) (nI p) d = some (if R (16 + 9 * goS R p + 4) = 0 then 0 else 1) := by
  obtain ⟨gi, gt⟩ := goS_lt hR hp hg
  obtain ⟨w1, w2, w3⟩ := wd_at hR gi
  refine rn_val ?_
  unfold f_X1_isNextShut f_X1_isNextShut_30
  refine rn_t (ks_o hK 3 1 rfl) ?_
  refine r_gP hK 3 1 1 4 rfl (by decide) ?_
  refine r_gP hK 3 1 4 31 rfl (by decide) ?_
  refine rn_eq (k_next hR hK hB hp) ?_
  refine rn_eq (tb_get (o := 31) (nc := 4) (c := 0) hK (by decide) hB.2.2.2.2.1 rfl gi rfl (by decide)) ?_
  have ev0 : vD R 0 (goI R p) = R (9642 + 3 * goI R p) := rfl
  rw [ev0, w2]
  refine rn_eq (tb_get (o := 4) (nc := 9) (c := 4) hK (by decide) hB.2.1 rfl gt rfl (by decide)) ?_
  have ev4 : vS R 4 (goS R p) = R (16 + 9 * goS R p + 4) := rfl
  rw [ev4]
  rcases (hR.2.2.1 _ gt).2.2.2.1 with e | e
  · rw [e]
    exact rn_t (by decide) ⟨0, rfl, rfl⟩
  · rw [e]
    exact rn_f (fun q => q rfl) ⟨1, rfl, rfl⟩
theorem k_clearSide (hK : KS sh z) (hw : OWS ow z) (hN : WN R) (hB : BK sh d z ow 3 R q) (ht : t < nn R 1) : Rn (f_X1_clearSide N sh (z + 3) (nI t) d) (fun d' => FD (IX z ow 4 5) d d' ∧ BK sh d' z ow 3 (clR R t) q) := by
  have ht4 : tck 4 9 = true := by decide
  have mo : ∀ {a b : Dt}, FD (TX z ow 4) a b → FD (IX z ow 4 5) a b := fun h => h.mono (fun a ha => tx_ix ht4 hw ha)
  unfold f_X1_clearSide
  refine rn_t (ks_o hK 3 1 rfl) ?_
  refine r_gP hK 3 1 1 4 rfl (by decide) ?_
  refine rn_eq (tb_get (o := 4) (nc := 9) (c := 3) hK ht4 hB.2.1 rfl ht rfl (by decide)) ?_
  have e3 : vS R 3 t = R (16 + 9 * t + 3) := rfl
  refine r_gP hK 3 1 1 4 rfl (by decide) ?_
  refine rn_eq (tb_get (o := 4) (nc := 9) (c := 2) hK ht4 hB.2.1 rfl ht rfl (by decide)) ?_
  have e2 : vS R 2 t = R (16 + 9 * t + 2) := rfl
  rw [e2, e3]
  have fin : ∀ d1, FD (IX z ow 4 5) d d1 → BK sh d1 z ow 3 (va_up R (16 + 9 * t + 2) (clN R t)) q → Rn (f_X1_clearSide_33 N sh (z + 3) (nI t) (R (16 + 9 * t + 3)) d1) (fun d' => FD (IX z ow 4 5) d d' ∧ BK sh d' z ow 3 (clR R t) q) := fun d1 hf hB1 => by
    have ht1 : t < nn (va_up R (16 + 9 * t + 2) (clN R t)) 1 := by rw [nn_up (by omega)]; exact ht
    unfold f_X1_clearSide_33 f_X1_clearSide_56
    refine r_gP hK 3 1 1 4 rfl (by decide) ?_
    refine rn_eq (tb_get (o := 4) (nc := 9) (c := 2) hK ht4 hB1.2.1 rfl ht1 rfl (by decide)) ?_
    have ev : vS (va_up R (16 + 9 * t + 2) (clN R t)) 2 t = clN R t := va_up_s
    rw [ev]
    refine rn_ite (fun h => ?_) (fun h => ?_)
    · refine rn_some ⟨hf, ?_⟩
      unfold clR
      rw [if_pos h, up_id (f := va_up R (16 + 9 * t + 2) (clN R t)) (va_up_n (by omega)).symm]
      exact hB1
    · refine r_gP hK 3 1 1 4 rfl (by decide) ?_
      refine rn_bind (tb_put (o := 4) (nc := 9) (c := 0) (v := 0) hK hw ht4 hB1.2.1 rfl ht1 rfl (by decide)) (fun d2 hd => rn_some ⟨hf.tr (mo hd.2), ?_⟩)
      unfold clR
      rw [if_neg h]
      exact bk_upS (Or.inl rfl) hK hw (wn_up hN (by omega)) hB1 ht1 (by decide) hd.1 hd.2
  refine rn_ite (fun h => ?_) (fun h => ?_)
  · refine fin d FD.rf ?_
    have e : clN R t = R (16 + 9 * t + 2) := by
      unfold clN
      rw [if_neg (Int32.not_lt.mpr h)]
      exact Int32.add_zero _
    rw [up_id e]
    exact hB
  · refine r_gP hK 3 1 1 4 rfl (by decide) ?_
    refine rn_bind (tb_raise (o := 4) (nc := 9) (c := 2) (v := 1) hK hw ht4 hB.2.1 rfl ht rfl (by decide)) (fun d1 hd => ?_)
    refine fin d1 (mo hd.2) ?_
    have e : clN R t = vS R 2 t + 1 := by
      unfold clN
      rw [if_pos (Int32.not_le.mp h)]
      rfl
    rw [e]
    exact bk_upS (Or.inl rfl) hK hw hN hB ht (by decide) hd.1 hd.2
def go4 (R : Nat → Int32) (p : Nat) (a b x e : Int32) : Nat → Int32 := va_up (va_up (va_up (va_up R (9426 + 13 * p + 11) a) (9426 + 13 * p + 9) b) (9426 + 13 * p + 12) x) (9426 + 13 * p + 8) e
theorem go4_vP {a b x e : Int32} {c i : Nat} (hc : c < 9) : vP (go4 R p a b x e) c i = if c = 8 ∧ i = p then x else if c = 7 ∧ i = p then a else if c = 3 ∧ i = p then b else if c = 2 ∧ i = p then e else vP R c i := by
  have e11 : go4 R p a b x e (9426 + 13 * p + 11) = a := by unfold go4; rw [va_up_n (by omega), va_up_n (by omega), va_up_n (by omega), va_up_s]
  have e9 : go4 R p a b x e (9426 + 13 * p + 9) = b := by unfold go4; rw [va_up_n (by omega), va_up_n (by omega), va_up_s]
  have e12 : go4 R p a b x e (9426 + 13 * p + 12) = x := by unfold go4; rw [va_up_n (by omega), va_up_s]
  have e8 : go4 R p a b x e (9426 + 13 * p + 8) = e := by unfold go4; rw [va_up_s]
  have en : ∀ j, (j < 9426 + 13 * p + 8 ∨ j = 9426 + 13 * p + 10 ∨ 9426 + 13 * p + 13 ≤ j) → go4 R p a b x e j = R j := fun j hj => by
    unfold go4
    rw [va_up_n (by omega), va_up_n (by omega), va_up_n (by omega), va_up_n (by omega)]
  by_cases hi : i = p
  · subst hi
    have hc9 : c = 0 ∨ c = 1 ∨ c = 2 ∨ c = 3 ∨ c = 4 ∨ c = 5 ∨ c = 6 ∨ c = 7 ∨ c = 8 := by omega
    rcases hc9 with rfl | rfl | rfl | rfl | rfl | rfl | rfl | rfl | rfl
    · simp only [show ¬ (0 : Nat) = 8 by decide, show ¬ (0 : Nat) = 7 by decide, show ¬ (0 : Nat) = 3 by decide, show ¬ (0 : Nat) = 2 by decide, false_and, if_false]
      exact en _ (by omega)
    · simp only [show ¬ (1 : Nat) = 8 by decide, show ¬ (1 : Nat) = 7 by decide, show ¬ (1 : Nat) = 3 by decide, show ¬ (1 : Nat) = 2 by decide, false_and, if_false]
      exact en _ (by omega)
    · simp only [show ¬ (2 : Nat) = 8 by decide, show ¬ (2 : Nat) = 7 by decide, show ¬ (2 : Nat) = 3 by decide, false_and, if_false, true_and, if_true]
      exact e8
    · simp only [show ¬ (3 : Nat) = 8 by decide, show ¬ (3 : Nat) = 7 by decide, false_and, if_false, true_and, if_true]
      exact e9
    · simp only [show ¬ (4 : Nat) = 8 by decide, show ¬ (4 : Nat) = 7 by decide, show ¬ (4 : Nat) = 3 by decide, show ¬ (4 : Nat) = 2 by decide, false_and, if_false]
      exact en _ (by omega)
    · simp only [show ¬ (5 : Nat) = 8 by decide, show ¬ (5 : Nat) = 7 by decide, show ¬ (5 : Nat) = 3 by decide, show ¬ (5 : Nat) = 2 by decide, false_and, if_false]
      exact en _ (by omega)
    · simp only [show ¬ (6 : Nat) = 8 by decide, show ¬ (6 : Nat) = 7 by decide, show ¬ (6 : Nat) = 3 by decide, show ¬ (6 : Nat) = 2 by decide, false_and, if_false]
      show (if go4 R i a b x e (9426 + 13 * i + 2) = 1 then -1 else go4 R i a b x e (9426 + 13 * i)) = (if R (9426 + 13 * i + 2) = 1 then -1 else R (9426 + 13 * i))
      rw [en _ (by omega), en _ (by omega)]
    · simp only [show ¬ (7 : Nat) = 8 by decide, false_and, if_false, true_and, if_true]
      exact e11
    · simp only [true_and, if_true]
      exact e12
  · rw [if_neg (fun q => hi q.2), if_neg (fun q => hi q.2), if_neg (fun q => hi q.2), if_neg (fun q => hi q.2)]
    have h : ∀ t, t < 13 → go4 R p a b x e (9426 + 13 * i + t) = R (9426 + 13 * i + t) := fun t ht => en _ (by omega)
    unfold vP
    simp only [h 6 (by omega), h 7 (by omega), h 8 (by omega), h 9 (by omega), h 10 (by omega), h 1 (by omega), h 2 (by omega), show go4 R p a b x e (9426 + 13 * i) = R (9426 + 13 * i) from h 0 (by omega), h 11 (by omega), h 12 (by omega)]
theorem tb_raiseW {row col v w : Int32} {i c o nc S : Nat} {V : Nat → Nat → Int32} {L : Nat → Nat} (h : KS sh z) (hw : OWS ow z) (hk : tck o nc = true) (ht : TB sh d z ow o nc S V L) (hr : row = nI i) (hi : i < S) (hl : col = nI c) (hc : c < nc) (hv : V c i + v = w) : Rn (f_X8_raise N sh (z + o) row col v d) (fun d' => TB sh d' z ow o nc S (fun c' i' => if c' = c ∧ i' = i then w else V c' i') L ∧ FD (TX z ow o) d d') := by
  subst hv
  exact tb_raise h hw hk ht hr hi hl hc
theorem k_driveNext (hR : WF R) (hK : KS sh z) (hw : OWS ow z) (hB : BK sh d z ow 3 R q) (hP : PB sh d z ow R) (hp : p < nn R 3) (hg : nn R (9426 + 13 * p + 8) < nn R (9426 + 13 * p + 7)) : Rn (f_X11_driveNext N sh z (nI p) d) (fun d' => FD (IX z ow 1 39) d d' ∧ BK sh d' z ow 3 (goP R p) q) := by
  have hN := hR.1
  have n1 := hN.2.1.2
  have n3 := hN.2.2.2.1.2
  have n4 := hN.2.2.2.2.2
  have hW := wpk_of hR
  obtain ⟨gi, gt⟩ := goS_lt hR hp hg
  obtain ⟨a1, a2, a3, a4, a5⟩ := wp_prt hR hp
  obtain ⟨w1, w2, w3⟩ := wd_at hR gi
  obtain ⟨-, ⟨l1, l2, l3⟩, -⟩ := hR.2.2.1 _ gt
  have sb := psN_le (R := R) (p := p) (i := goI R p)
  have tb := tkR_b (R := R) (p := p) l3
  have e1 : R (9642 + 3 * goI R p + 2) = 1 → psN R p (goI R p) = (psR R p (R (16 + 9 * goS R p + 0))).toNatClampNeg := fun q => if_pos q
  have ec : ∀ j, (∀ t, t < 150 → j ≠ 16 + 9 * t + 2 ∧ j ≠ 16 + 9 * t) → goC R p j = R j := fun j hj => goC_n hj (by omega)
  have e3 : nn (goC R p) 3 = nn R 3 := nn_eq (ec 3 (fun t _ => by omega))
  have ht20 : tck 20 9 = true := by decide
  have mo : ∀ {a b : Dt}, FD (TX z ow 20) a b → FD (IX z ow 1 39) a b := fun h => h.mono (fun a ha => ix_mono (tx_ix ht20 hw ha) (by omega) (by omega))
  have lg : ∀ {a b : Dt}, LG z a b → FD (IX z ow 1 39) a b := fun h => (h.ix hw).mono (fun a ha => ix_mono ha (by omega) (by omega))
  /- the PLOUGH's row -/
  have last : ∀ d1, FD (IX z ow 1 39) d d1 → BK sh d1 z ow 3 (goC R p) q → Rn (f_X11_driveNext_138 N sh z (nI p) (nI (psN R p (goI R p))) (nI (max 1 (psN R p (goI R p)) * tkR R p (sln R (goS R p)))) d1) (fun d' => FD (IX z ow 1 39) d d' ∧ BK sh d' z ow 3 (goP R p) q) := fun d1 hf hB1 => by
    have hp1 : p < nn (goC R p) 3 := by rw [e3]; exact hp
    unfold f_X11_driveNext_138
    refine r_now hK 3 20 (by decide) ?_
    have v2 : vP (goC R p) 2 p + 1 = R (9426 + 13 * p + 8) + 1 := by rw [show vP (goC R p) 2 p = R (9426 + 13 * p + 8) from ec _ (fun t _ => by omega)]
    refine rn_bind (tb_raiseW (o := 20) (nc := 9) (c := 2) (v := 1) hK hw ht20 hB1.2.2.2.1 rfl hp1 rfl (by decide) v2) (fun d2 hd2 => ?_)
    have t2 := hd2.1
    refine r_now hK 3 20 (by decide) ?_
    have v3 : (if 3 = 2 ∧ p = p then R (9426 + 13 * p + 8) + 1 else vP (goC R p) 3 p) + nI (max 1 (psN R p (goI R p)) * tkR R p (sln R (goS R p))) = goM R p := by
      rw [if_neg (show ¬ (3 = 2 ∧ p = p) from fun q => absurd q.1 (by decide)), show vP (goC R p) 3 p = R (9426 + 13 * p + 9) from ec _ (fun t _ => by omega)]
      rfl
    refine rn_bind (tb_raiseW (o := 20) (nc := 9) (c := 3) (v := nI (max 1 (psN R p (goI R p)) * tkR R p (sln R (goS R p)))) hK hw ht20 t2 rfl hp1 rfl (by decide) v3) (fun d3 hd3 => ?_)
    have t3 := hd3.1
    refine r_now hK 3 20 (by decide) ?_
    have stp : ∀ o, o = (if 1 < psN R p (goI R p) then (1 : Int32) else 0) → Rn (f_X11_driveNext_186 N sh z (nI p) (z + 20) (nI p) (7 : Int32) o d3) (fun d' => FD (IX z ow 1 39) d d' ∧ BK sh d' z ow 3 (goP R p) q) := fun o ho => by
      unfold f_X11_driveNext_186
      have v7 : (if 7 = 3 ∧ p = p then goM R p else if 7 = 2 ∧ p = p then R (9426 + 13 * p + 8) + 1 else vP (goC R p) 7 p) + o = R (9426 + 13 * p + 11) + o := by
        rw [if_neg (show ¬ (7 = 3 ∧ p = p) from fun q => absurd q.1 (by decide)), if_neg (show ¬ (7 = 2 ∧ p = p) from fun q => absurd q.1 (by decide)), show vP (goC R p) 7 p = R (9426 + 13 * p + 11) from ec _ (fun t _ => by omega)]
      refine rn_bind (tb_raiseW (o := 20) (nc := 9) (c := 7) (v := o) hK hw ht20 t3 rfl hp1 rfl (by decide) v7) (fun d4 hd4 => ?_)
      have t4 := hd4.1
      refine r_now hK 3 20 (by decide) ?_
      refine rn_eq (tb_get (o := 20) (nc := 9) (c := 3) hK ht20 t4 rfl hp1 rfl (by decide)) ?_
      refine r_now hK 3 20 (by decide) ?_
      refine rn_eq (tb_get (o := 20) (nc := 9) (c := 5) hK ht20 t4 rfl hp1 rfl (by decide)) ?_
      have g3 : (if 3 = 7 ∧ p = p then R (9426 + 13 * p + 11) + o else if 3 = 3 ∧ p = p then goM R p else if 3 = 2 ∧ p = p then R (9426 + 13 * p + 8) + 1 else vP (goC R p) 3 p) = goM R p := by
        rw [if_neg (show ¬ (3 = 7 ∧ p = p) from fun q => absurd q.1 (by decide)), if_pos (show 3 = 3 ∧ p = p from ⟨rfl, rfl⟩)]
      have g5 : (if 5 = 7 ∧ p = p then R (9426 + 13 * p + 11) + o else if 5 = 3 ∧ p = p then goM R p else if 5 = 2 ∧ p = p then R (9426 + 13 * p + 8) + 1 else vP (goC R p) 5 p) = R (9426 + 13 * p + 1) := by
        rw [if_neg (show ¬ (5 = 7 ∧ p = p) from fun q => absurd q.1 (by decide)), if_neg (show ¬ (5 = 3 ∧ p = p) from fun q => absurd q.1 (by decide)), if_neg (show ¬ (5 = 2 ∧ p = p) from fun q => absurd q.1 (by decide))]
        exact ec _ (fun t _ => by omega)
      rw [g3, g5]
      have fin : ∀ o2, o2 = (if goM R p ≤ R (9426 + 13 * p + 1) then (0 : Int32) else 1) → Rn ((f_X8_raise N sh (z + 20) (nI p) (8 : Int32) o2 d4).bind fun v42 => some v42) (fun d' => FD (IX z ow 1 39) d d' ∧ BK sh d' z ow 3 (goP R p) q) := fun o2 ho2 => by
        have v8 : (if 8 = 7 ∧ p = p then R (9426 + 13 * p + 11) + o else if 8 = 3 ∧ p = p then goM R p else if 8 = 2 ∧ p = p then R (9426 + 13 * p + 8) + 1 else vP (goC R p) 8 p) + o2 = R (9426 + 13 * p + 12) + o2 := by
          rw [if_neg (show ¬ (8 = 7 ∧ p = p) from fun q => absurd q.1 (by decide)), if_neg (show ¬ (8 = 3 ∧ p = p) from fun q => absurd q.1 (by decide)), if_neg (show ¬ (8 = 2 ∧ p = p) from fun q => absurd q.1 (by decide)), show vP (goC R p) 8 p = R (9426 + 13 * p + 12) from ec _ (fun t _ => by omega)]
        refine rn_bind (tb_raiseW (o := 20) (nc := 9) (c := 8) (v := o2) hK hw ht20 t4 rfl hp1 rfl (by decide) v8) (fun d5 hd5 => rn_some ?_)
        have t5 := hd5.1
        refine ⟨hf.tr ((mo hd2.2).tr ((mo hd3.2).tr ((mo hd4.2).tr (mo hd5.2)))), ?_⟩
        have es : ES (IX z ow 20 21) (sh, d1) ow (sh, d5) ow := FD.es (sh := sh) (d := d1) ((((hd2.2.tr hd3.2).tr hd4.2).tr hd5.2).mono (fun a ha => tx_ix ht20 hw ha))
        have eg : goP R p = go4 (goC R p) p (R (9426 + 13 * p + 11) + o) (goM R p) (R (9426 + 13 * p + 12) + o2) (R (9426 + 13 * p + 8) + 1) := by
          rw [ho, ho2]
          rfl
        rw [eg]
        refine bk_P (s := (sh, d1)) (s' := (sh, d5)) (q := q) (L' := q.2.2.1) (wdn_of (goC_wf hR hp hg)) (Or.inl rfl) hK hw hB1 es ?_ hB1.2.2.2.2.2.2.2.2.2.1 (fun k _ hk => by
          unfold go4
          rw [va_up_n (by omega), va_up_n (by omega), va_up_n (by omega), va_up_n (by omega)])
        have e4 : nn (go4 (goC R p) p (R (9426 + 13 * p + 11) + o) (goM R p) (R (9426 + 13 * p + 12) + o2) (R (9426 + 13 * p + 8) + 1)) 3 = nn (goC R p) 3 := nn_eq (by
          unfold go4
          rw [va_up_n (by omega), va_up_n (by omega), va_up_n (by omega), va_up_n (by omega)])
        rw [e4]
        exact tb_congr t5 (fun c9 i9 hc _ => go4_vP hc)
      unfold f_X11_driveNext_221 f_X11_driveNext_243
      refine rn_ite (fun h => ?_) (fun h => ?_)
      · refine r_now hK 3 20 (by decide) ?_
        exact rn_t rfl (fin 0 (if_pos h).symm)
      · refine r_now hK 3 20 (by decide) ?_
        exact rn_f (by decide) (fin 1 (if_neg h).symm)
    refine rn_ite (fun h5 => stp 0 ?_) (fun h5 => stp 1 ?_)
    · have := (nI_leI (b := 1) (by omega) (by decide)).mp h5
      rw [if_neg (by omega)]
    · have : ¬ psN R p (goI R p) ≤ 1 := fun q => h5 (nI_le (b := 1) q (by decide))
      rw [if_pos (by omega)]
  unfold f_X11_driveNext
  refine rn_t (ks_o hK 0 11 rfl) ?_
  rw [← z0 (z := z)]
  refine r_gP hK 0 11 1 3 rfl (by decide) ?_
  refine rn_eq (k_next hR hK hB hp) ?_
  rw [z0 (z := z)]
  refine r_now hK 4 31 (by decide) ?_
  refine rn_eq (tb_get (o := 31) (nc := 4) (c := 0) hK (by decide) hB.2.2.2.2.1 rfl gi rfl (by decide)) ?_
  have ev0 : vD R 0 (goI R p) = R (9642 + 3 * goI R p) := rfl
  rw [ev0, w2]
  refine r_now hK 4 31 (by decide) ?_
  refine rn_eq (tb_get (o := 31) (nc := 4) (c := 3) hK (by decide) hB.2.2.2.2.1 rfl gi rfl (by decide)) ?_
  have ev3 : vD R 3 (goI R p) = R (9642 + 3 * goI R p + 2) := rfl
  rw [ev3]
  have mid : ∀ (l4 : Int32) d1, LG z d d1 → (l4 = 0 ↔ R (9642 + 3 * goI R p + 2) ≠ 1) → Rn (f_X11_driveNext_75 N sh z (nI p) (nI (goS R p)) l4 (nI (psN R p (goI R p))) d1) (fun d' => FD (IX z ow 1 39) d d' ∧ BK sh d' z ow 3 (goP R p) q) := fun l4 d1 hl h4 => by
    have hB1 := bk_lg hK hw hB hl
    have hP1 := pb_lg hK hw hP hl
    obtain ⟨a, b1, -, -, b4⟩ := k_body hK hP1 hp hN
    unfold f_X11_driveNext_75
    rw [← z0 (z := z)]
    refine r_gP hK 0 11 6 235 rfl (by decide) ?_
    refine rn_eq b1 ?_
    rw [z0 (z := z)]
    refine r_now hK 1 4 (by decide) ?_
    refine rn_eq (tb_get (o := 4) (nc := 9) (c := 6) hK (by decide) hB1.2.1 rfl gt rfl (by decide)) ?_
    have ev : vS R 6 (goS R p) = nI (sln R (goS R p)) := l1
    rw [ev]
    refine rn_bind (k_takes hK hW hp b4 l3 l2) (fun r hr => ?_)
    have hl2 := hl.tr hr.2
    have hB2 := bk_lg hK hw hB hl2
    have em : o_max (1 : Int32) (nI (psN R p (goI R p))) * r.1 = nI (max 1 (psN R p (goI R p)) * tkR R p (sln R (goS R p))) := by
      rw [hr.1, show (1 : Int32) = nI 1 from rfl, o_max_nI (by decide) (by omega), pk_mul]
    rw [em]
    by_cases h0 : psN R p (goI R p) = 0
    · refine rn_f (fun q => q (by rw [h0]; rfl)) ?_
      rw [← z0 (z := z)]
      refine r_gP hK 0 11 0 1 rfl (by decide) ?_
      refine rn_bind (k_find hK) (fun d3 hd3 => ?_)
      rw [z0 (z := z)]
      have eC : goC R p = R := if_neg (fun q => q.2 h0)
      refine last d3 (lg (hl2.tr hd3)) ?_
      rw [eC]
      exact bk_lg hK hw hB2 hd3
    · refine rn_t (nI_ne0 (by omega) (by omega)) ?_
      refine rn_ite (fun h5 => ?_) (fun h5 => ?_)
      · have eC : goC R p = R := if_neg (fun q => (h4.mp h5) q.1)
        refine last r.2 (lg hl2) ?_
        rw [eC]
        exact hB2
      · have hc1 : R (9642 + 3 * goI R p + 2) = 1 := Decidable.of_not_not (fun q => h5 (h4.mpr q))
        have eC : goC R p = clR R (goS R p) := if_pos ⟨hc1, h0⟩
        rw [← z0 (z := z)]
        refine r_gP hK 0 11 1 3 rfl (by decide) ?_
        refine rn_bind (k_clearSide hK hw hN hB2 gt) (fun d3 hd3 => ?_)
        rw [z0 (z := z)]
        refine last d3 ((lg hl2).tr (hd3.1.mono (fun a ha => ix_mono ha (by omega) (by omega)))) ?_
        rw [eC]
        exact hd3.2
  unfold f_X11_driveNext_43
  refine rn_ite (fun h1 => ?_) (fun h1 => ?_)
  · refine rn_t rfl ?_
    have ep : psN R p (goI R p) = 1 := if_neg h1
    have := mid 0 d LG.rf ⟨fun _ => h1, fun _ => rfl⟩
    rw [ep] at this
    exact this
  · have h1 := Decidable.of_not_not h1
    refine rn_f (by decide) ?_
    obtain ⟨a, b1, -, -, b4⟩ := k_body hK hP hp hN
    rw [← z0 (z := z)]
    refine r_gP hK 0 11 6 235 rfl (by decide) ?_
    refine rn_eq b1 ?_
    rw [z0 (z := z)]
    refine r_now hK 1 4 (by decide) ?_
    refine rn_eq (tb_get (o := 4) (nc := 9) (c := 0) hK (by decide) hB.2.1 rfl gt rfl (by decide)) ?_
    have ev : vS R 0 (goS R p) = R (16 + 9 * goS R p + 0) := rfl
    rw [ev]
    refine rn_bind (k_passes hK hW hp b4) (fun r hr => ?_)
    have e2 := psR_nI (R := R) (p := p) (v := R (16 + 9 * goS R p + 0))
    rw [← e1 h1] at e2
    rw [hr.1, e2]
    exact mid 1 r.2 hr.2 ⟨fun q => absurd q (by decide), fun q => absurd h1 q⟩
theorem kgo_loop (hR : WF R) (hp : p < nn R 3) (h0 : gst R p) (hn1 : 1 ≤ n) (hn : n ≤ 50) : ∀ (m k fu : Nat) (d : Dt), k + m = n → m < fu → gok R p k → RFR z s0 (s1.1, d) → CJ (s1.1, d) z ow R yy c (pot q) → BK s1.1 d z ow 3 (goF R p k) q → PB s1.1 d z ow (goF R p k) → Rn (f_X11_go_104 N fu z (nI p) (nI n) (nI k) (s1.1, d)) (KO z R K u c (goO R p (goN R p m k)) s0)
  | m, k, fu, d, hk, hf, ho, hF, hJ, hB, hP => by
    obtain ⟨fu, rfl⟩ : ∃ q, fu = q + 1 := ⟨fu - 1, by omega⟩
    have n3 := hR.1.2.2.2.1.2
    obtain ⟨hw9, e3⟩ := goF_ok hR hp k ho
    have hp2 : p < nn (goF R p k) 3 := by rw [e3]; exact hp
    have hK : KS s1.1 z := hJ.1
    have hw := hJ.2.1
    have fin : ∀ d1, LG z d d1 → k ≠ 0 → Rn (f_X11_go_158 N z (nI k) (s1.1, d1)) (KO z R K u c (goO R p k) s0) := fun d1 hl hk0 => by
      unfold f_X11_go_158
      have c1 := cj_ci hJ hB hP
      have q1 := ci_lg (s := (s1.1, d)) c1 hl
      refine rn_bind (k_answer hK) (fun r hr => rn_some ?_)
      have q2 := ci_lg (s := (s1.1, d1)) q1.1 hr.2
      refine ⟨hr.1, (hF.tr q1.2).tr q2.2, ow, (q, yy), ?_⟩
      unfold goO
      simp only [if_neg hk0]
      exact q2.1
    show Rn (g_X11_go_104 N (f_X11_go_104 N fu) z (nI p) (nI n) (nI k) (s1.1, d)) _
    unfold g_X11_go_104
    cases m with
    | zero =>
      refine rn_t (nI_le (by omega) (by omega)) ?_
      exact fin d LG.rf (by omega)
    | succ m =>
      refine rn_f (nI_ge (by omega) (by omega)) ?_
      rw [← z0 (z := z)]
      refine r_gP hK 0 11 1 3 rfl (by decide) ?_
      refine rn_eq (k_left hw9 hK hB hp2) ?_
      by_cases hg1 : nn (goF R p k) (9426 + 13 * p + 8) < nn (goF R p k) (9426 + 13 * p + 7)
      · rw [if_pos hg1]
        refine rn_f (by decide) ?_
        refine r_gP hK 0 11 0 1 rfl (by decide) ?_
        refine r_gI hK (i := 1) (c := 2) rfl ?_
        refine r_pI hK (i := 1) (c := 2) rfl ?_
        have hl : LG z d (wI d (z + 1) 3 (d.1 (z + 1) 3 + 1)) := LG.w1
        have hB1 := bk_lg hK hw hB hl
        have hP1 := pb_lg hK hw hP hl
        refine r_gP hK 0 11 1 3 rfl (by decide) ?_
        refine rn_eq (k_nshut hw9 hK hB1 hp2 hg1) ?_
        rw [z0 (z := z)]
        by_cases h2 : goF R p k (16 + 9 * goS (goF R p k) p + 4) = 0
        · have hg : gst (goF R p k) p := ⟨hg1, h2⟩
          rw [if_pos h2, show goN R p (m + 1) k = goN R p m (k + 1) from if_pos hg]
          refine rn_t rfl ?_
          refine rn_bind (k_driveNext hw9 hK hw hB1 hP1 hp2 hg1) (fun d3 hd3 => ?_)
          rw [nI_1]
          have fd : FD (IX z ow 1 39) d d3 := ((hl.ix hw).mono (fun a ha => ix_mono ha (by omega) (by omega))).tr hd3.1
          have es : ES (IX z ow 1 39) (s1.1, d) ow (s1.1, d3) ow := FD.es (sh := s1.1) (d := d) fd
          have j2 := cj_es (c' := c) (P' := pot q) hJ es (by omega) (Nat.le_refl _) (Nat.le_refl _)
          have gs := (goS_lt hw9 hp2 hg1).2
          have n1 := hw9.1.2.1.2
          have pk := pb_ix (s := (s1.1, d)) (s' := (s1.1, d3)) hP hK hw es (by omega) (by omega)
          refine kgo_loop hR hp h0 hn1 hn m (k + 1) fu d3 (by omega) (by omega) (gok_s ho hg) (hF.tr j2.2) j2.1 hd3.2 ?_
          refine pb_cg2 pk (nn_eq (goP_n (fun t _ => by omega) (by omega) (by omega))) (fun p' x hx => ?_)
          show goP (goF R p k) p (9426 + 13 * p' + x) = _
          unfold goP
          rw [va_up_n (by omega), va_up_n (by omega), va_up_n (by omega), va_up_n (by omega)]
          exact goC_n (fun t _ => by omega) (by omega)
        · rw [if_neg h2, show goN R p (m + 1) k = k from if_neg (fun q => h2 q.2)]
          refine rn_f (by decide) ?_
          unfold f_X11_go_144
          exact fin _ hl (fun e => by subst e; exact h2 h0.2)
      · rw [if_neg hg1, show goN R p (m + 1) k = k from if_neg (fun q => hg1 q.1)]
        refine rn_t rfl ?_
        rw [z0 (z := z)]
        exact fin d LG.rf (fun e => by subst e; exact hg1 h0.1)
theorem k_go {x w : Int32} (hNf : 300 ≤ N) (h : CI s z ow R K u y c) (hR : WF R) (hKF : WF K) : Rn (f_X11_go N z x w s) (KO z R K u c (sp_go R x w) s) := by
  have hK := h.1
  have hN := hR.1
  have n3 := hN.2.2.2.1.2
  have hB : BK s.1 s.2 z ow 3 R y.1 := h.2.2.1
  have bad : (x < 0 ∨ nI (nn R 3) ≤ x) ∨ (w < 1 ∨ 50 < w) → Rn (f_X11_go_25 N z s) (KO z R K u c (sp_go R x w) s) := fun hb => by
    rw [show sp_go R x w = _ from if_pos hb]
    unfold f_X11_go_25
    refine rn_bind (k_refuse hK) (fun r hr => rn_some ?_)
    exact ko_lg h hr rfl
  unfold f_X11_go
  refine rn_t (ks_o hK 0 11 rfl) ?_
  refine r_now hK 3 20 (by decide) ?_
  refine rn_eq (tb_has (o := 20) (nc := 9) hK (by decide) hB.2.2.2.1) ?_
  refine rn_ite (fun h1 => bad (Or.inl (ite01.mp h1))) (fun h1 => ?_)
  refine rn_ite (fun h2 => bad (Or.inr (Or.inl h2))) (fun h2 => ?_)
  refine rn_ite (fun h5 => ?_) (fun h5 => bad (Or.inr (Or.inr (Int32.not_le.mp h5))))
  have h1 : ¬ (x < 0 ∨ nI (nn R 3) ≤ x) := fun q => h1 (ite01.mpr q)
  have hw : ¬ (w < 1 ∨ 50 < w) := fun q => q.elim h2 (fun q => Int32.not_le.mpr q h5)
  rw [show sp_go R x w = _ from if_neg (fun q => q.elim h1 hw)]
  obtain ⟨p, hp, rfl, e1⟩ := st_of (by omega) h1
  obtain ⟨n, hn, rfl, e2⟩ := st_of (x := w) (n := 51) (by decide) (fun q => q.elim (fun q => hw (Or.inl (Int32.lt_of_lt_of_le q (by decide)))) (fun q => hw (Or.inr ((lt_pred (n := 51) (by decide)).mpr q))))
  have hn1 : 1 ≤ n := by
    rcases Nat.eq_zero_or_pos n with e | e
    · subst e
      exact absurd (show nI 0 < 1 by decide) h2
    · exact e
  rw [e1, e2]
  refine r_gP hK 0 11 1 3 rfl (by decide) ?_
  refine rn_eq (k_isOut (Or.inl rfl) hR hK hB.2.2.2.1 hp) ?_
  by_cases h3 : R (9426 + 13 * p + 2) = 1
  · rw [if_pos h3, if_pos h3]
    refine rn_f (by decide) ?_
    refine rn_bind (k_refuse hK) (fun r hr => rn_some ?_)
    exact ko_lg h hr rfl
  rw [if_neg h3, if_neg h3]
  refine rn_t rfl ?_
  refine r_gP hK 0 11 1 3 rfl (by decide) ?_
  refine rn_eq (k_left hR hK hB hp) ?_
  by_cases h4 : nn R (9426 + 13 * p + 8) < nn R (9426 + 13 * p + 7)
  · rw [if_pos h4, if_pos h4]
    refine rn_t (by decide) ?_
    refine r_gP hK 0 11 1 3 rfl (by decide) ?_
    refine rn_eq (k_nshut hR hK hB hp h4) ?_
    by_cases h6 : R (16 + 9 * goS R p + 4) = 0
    · rw [if_pos h6]
      refine rn_t rfl ?_
      refine rn_bind (ci_change (by omega) h hR.1 hR.2.1 hKF.1) (fun s1 hs => ?_)
      obtain ⟨f1, g1, g2, g3, ow1, y1, -, c1⟩ := hs
      unfold f_X11_go_102
      exact kgo_loop (s1 := s1) hR hp ⟨h4, h6⟩ hn1 (by omega) n 0 N s1.2 (by omega) (by omega) (fun j hj => absurd hj (Nat.not_lt_zero j)) f1 (cj_of c1 g1 g2 g3) c1.2.2.1 c1.2.2.2.2.2.1
    · rw [if_neg h6]
      refine rn_f (by decide) ?_
      obtain ⟨m, rfl⟩ : ∃ m, n = m + 1 := ⟨n - 1, by omega⟩
      have e0 : goN R p (m + 1) 0 = 0 := if_neg (fun q => h6 q.2)
      rw [e0]
      refine r_gP hK 0 11 0 1 rfl (by decide) ?_
      refine r_gI hK (i := 1) (c := 2) rfl ?_
      refine r_pI hK (i := 1) (c := 2) rfl ?_
      have hl : LG z s.2 (wI s.2 (z + 1) 3 (s.2.1 (z + 1) 3 + 1)) := LG.w1
      refine rn_bind (k_answer hK) (fun r hr => rn_some ?_)
      exact ko_lg h ⟨hr.1, hl.tr hr.2⟩ rfl
  · rw [if_neg h4, if_neg h4]
    refine rn_f (fun q => q rfl) ?_
    refine rn_bind (k_refuse hK) (fun r hr => rn_some ?_)
    exact ko_lg h hr rfl
end GOK
/-! 9s.digest.lean.txt -/
/-! digest() of both, sign() of both: they read, and answer -/
section DIG
variable {s : AS} {sh : Sh} {d d0 d' : Dt} {z : Nat} {ow : Nat → Nat} {R K : Nat → Int32} {u : Bool} {y : YL} {N cc i p t c m h g : Nat} {q : BL} {γ : Type} {Q : γ → Prop}
theorem m_dat {w : Int32} (hK : KS sh z) (h : RI d z R K u) (hR : WF R) (hi : i < nn R 4) : Rn (f_X12_driveAt N sh (z + 242) (nI i) w d) (fun _ => True) := by
  have n4 := hR.1.2.2.2.2
  have n1 := hR.1.2.1.2
  obtain ⟨s, c, hs, e0, e1, -⟩ := hR.2.2.2.2.2 i hi
  unfold f_X12_driveAt f_X12_driveAt_68
  refine rn_t (ks_o hK 242 12 rfl) ?_
  refine rn_ite (fun _ => ?_) (fun _ => rdd0 hK h.1 (by omega) (rn_some trivial))
  refine rn_ite (fun _ => ?_) (fun _ => rdd hK h.1 (by omega) 1 (by decide) rfl (rn_some trivial))
  refine rn_ite (fun _ => rdd hK h.1 (by omega) 2 (by decide) rfl (rn_some trivial)) (fun _ => ?_)
  refine rn_bind (P := fun _ => True) ?_ (fun v _ => rn_some trivial)
  unfold f_X12_to f_X12_to_64
  refine rn_t (ks_o hK 242 12 rfl) ?_
  refine rdd0 hK h.1 (by omega) ?_
  rw [e0]
  refine rn_eq (m_st hK) ?_
  refine rdd hK h.1 (by omega) 1 (by decide) rfl ?_
  refine rst hK h.1 7 (by omega) (by decide) rfl ?_
  refine rn_ite (fun _ => rst hK h.1 7 (by omega) (by decide) rfl (rn_some trivial)) (fun _ => rst hK h.1 8 (by omega) (by decide) rfl (rn_some trivial))
theorem m_pat {w : Int32} (hK : KS sh z) (hp12 : p < 12) : Rn (f_X12_partAt N sh (z + 242) (nI p) w d) (fun _ => True) := by
  unfold f_X12_partAt f_X12_partAt_135
  refine rn_t (ks_o hK 242 12 rfl) ?_
  refine rn_eq (m_pl hK) ?_
  refine rn_ite (fun _ => rdp hK hp12 6 (by decide) rfl (fun _ => rn_some trivial)) (fun _ => ?_)
  refine rn_ite (fun _ => rdp hK hp12 7 (by decide) rfl (fun _ => rn_some trivial)) (fun _ => ?_)
  refine rn_ite (fun _ => rdp hK hp12 8 (by decide) rfl (fun _ => rn_some trivial)) (fun _ => ?_)
  refine rn_ite (fun _ => rdp hK hp12 9 (by decide) rfl (fun _ => rn_some trivial)) (fun _ => ?_)
  refine rn_ite (fun _ => rdp hK hp12 10 (by decide) rfl (fun _ => rn_some trivial)) (fun _ => ?_)
  refine rn_ite (fun _ => rdp hK hp12 1 (by decide) rfl (fun _ => rn_some trivial)) (fun _ => ?_)
  refine rn_ite (fun _ => rdp hK hp12 2 (by decide) rfl (fun v => ?_)) (fun _ => ?_)
  · refine rn_ite (fun _ => rdp hK hp12 0 (by decide) rfl (fun _ => rn_some trivial)) (fun _ => rn_some trivial)
  refine rn_ite (fun _ => rdp hK hp12 11 (by decide) rfl (fun _ => rn_some trivial)) (fun _ => ?_)
  exact rdp hK hp12 12 (by decide) rfl (fun _ => rn_some trivial)
/-! the reference's loops, the last first -/
theorem dg205 {k : Nat → Int32 → Int32 → Dt → Option (Int32 × Dt)} {Q : Int32 × Dt → Prop} (hK : KS sh z) (h : RI d z R K u) (hR : WF R) (hi : i < nn R 4) (kk : ∀ v, Rn (k (z + 242) v (nI (i + 1)) d) Q) : ∀ (m c fu : Nat) (v : Int32), c + m = 4 → m < fu → Rn (f_X12_digest_205 N sh k fu (z + 242) v (nI i) (nI c) d) Q
  | 0, c, fu, v, hc, hf => by
    obtain ⟨fu, rfl⟩ : ∃ q, fu = q + 1 := ⟨fu - 1, by omega⟩
    show Rn (g_X12_digest_205 N sh k (f_X12_digest_205 N sh k fu) (z + 242) v (nI i) (nI c) d) _
    unfold g_X12_digest_205 f_X12_digest_228
    rw [nI_1]
    refine rn_t (nI_le (a := 4) (by omega) (by omega)) ?_
    exact kk v
  | m + 1, c, fu, v, hc, hf => by
    obtain ⟨fu, rfl⟩ : ∃ q, fu = q + 1 := ⟨fu - 1, by omega⟩
    show Rn (g_X12_digest_205 N sh k (f_X12_digest_205 N sh k fu) (z + 242) v (nI i) (nI c) d) _
    unfold g_X12_digest_205
    refine rn_f (nI_ge (b := 4) (by omega) (by decide)) ?_
    refine rn_bind (m_dat hK h hR hi) (fun v26 _ => ?_)
    rw [nI_1]
    exact dg205 hK h hR hi kk m (c + 1) fu _ (by omega) (by omega)
theorem dg193 (hN2 : 2100 ≤ N) (hK : KS sh z) (h : RI d z R K u) (hR : WF R) : ∀ (m i fu : Nat) (v : Int32), i + m = nn R 4 → m < fu → Rn (f_X12_digest_193 N sh fu (z + 242) v (nI i) d) (RR z R K u d)
  | 0, i, fu, v, hc, hf => by
    obtain ⟨fu, rfl⟩ : ∃ q, fu = q + 1 := ⟨fu - 1, by omega⟩
    have n4 := hR.1.2.2.2.2
    show Rn (g_X12_digest_193 N sh (f_X12_digest_193 N sh fu) (z + 242) v (nI i) d) _
    unfold g_X12_digest_193 f_X12_digest_234
    refine rdg hK h.1 4 rfl (by decide) ?_
    rw [n4.1]
    refine rn_t (nI_le (by omega) (by omega)) ?_
    exact rr_says hK h MFR.rf
  | m + 1, i, fu, v, hc, hf => by
    obtain ⟨fu, rfl⟩ : ∃ q, fu = q + 1 := ⟨fu - 1, by omega⟩
    have n4 := hR.1.2.2.2.2
    show Rn (g_X12_digest_193 N sh (f_X12_digest_193 N sh fu) (z + 242) v (nI i) d) _
    unfold g_X12_digest_193
    refine rdg hK h.1 4 rfl (by decide) ?_
    rw [n4.1]
    refine rn_f (nI_ge (by omega) (by omega)) ?_
    exact dg205 hK h hR (by omega) (fun v => dg193 hN2 hK h hR m (i + 1) fu v (by omega) (by omega)) 4 0 N v rfl (by omega)
theorem dg161 {k : Nat → Int32 → Int32 → Dt → Option (Int32 × Dt)} {Q : Int32 × Dt → Prop} (hK : KS sh z) (hp : p < 12) (kk : ∀ v, Rn (k (z + 242) v (nI (p + 1)) d) Q) : ∀ (m c fu : Nat) (v : Int32), c + m = 9 → m < fu → Rn (f_X12_digest_161 N sh k fu (z + 242) v (nI p) (nI c) d) Q
  | 0, c, fu, v, hc, hf => by
    obtain ⟨fu, rfl⟩ : ∃ q, fu = q + 1 := ⟨fu - 1, by omega⟩
    show Rn (g_X12_digest_161 N sh k (f_X12_digest_161 N sh k fu) (z + 242) v (nI p) (nI c) d) _
    unfold g_X12_digest_161 f_X12_digest_185
    rw [nI_1]
    refine rn_t (nI_le (a := 9) (by omega) (by omega)) ?_
    exact kk v
  | m + 1, c, fu, v, hc, hf => by
    obtain ⟨fu, rfl⟩ : ∃ q, fu = q + 1 := ⟨fu - 1, by omega⟩
    show Rn (g_X12_digest_161 N sh k (f_X12_digest_161 N sh k fu) (z + 242) v (nI p) (nI c) d) _
    unfold g_X12_digest_161
    refine rn_f (nI_ge (b := 9) (by omega) (by decide)) ?_
    refine rn_bind (m_pat hK hp) (fun v26 _ => ?_)
    rw [nI_1]
    exact dg161 hK hp kk m (c + 1) fu _ (by omega) (by omega)
theorem dg149 (hN2 : 2100 ≤ N) (hK : KS sh z) (h : RI d z R K u) (hR : WF R) : ∀ (m i fu : Nat) (v : Int32), i + m = nn R 3 → m < fu → Rn (f_X12_digest_149 N sh fu (z + 242) v (nI i) d) (RR z R K u d)
  | 0, i, fu, v, hc, hf => by
    obtain ⟨fu, rfl⟩ : ∃ q, fu = q + 1 := ⟨fu - 1, by omega⟩
    have n3 := hR.1.2.2.2.1
    have n4 := hR.1.2.2.2.2
    show Rn (g_X12_digest_149 N sh (f_X12_digest_149 N sh fu) (z + 242) v (nI i) d) _
    unfold g_X12_digest_149 f_X12_digest_191
    refine rdg hK h.1 3 rfl (by decide) ?_
    rw [n3.1]
    refine rn_t (nI_le (by omega) (by omega)) ?_
    exact dg193 hN2 hK h hR (nn R 4) 0 N v (by omega) (by omega)
  | m + 1, i, fu, v, hc, hf => by
    obtain ⟨fu, rfl⟩ : ∃ q, fu = q + 1 := ⟨fu - 1, by omega⟩
    have n3 := hR.1.2.2.2.1
    show Rn (g_X12_digest_149 N sh (f_X12_digest_149 N sh fu) (z + 242) v (nI i) d) _
    unfold g_X12_digest_149
    refine rdg hK h.1 3 rfl (by decide) ?_
    rw [n3.1]
    refine rn_f (nI_ge (by omega) (by omega)) ?_
    exact dg161 hK (by omega) (fun v => dg149 hN2 hK h hR m (i + 1) fu v (by omega) (by omega)) 9 0 N v rfl (by omega)
theorem hrs_le (hG : WG R) (hg : g < nn R 2) : nn R (1366 + 3 * g + 2) ≤ 200 ∧ ∀ h, h ≤ 200 → (R (1366 + 3 * g + 2) ≤ nI h ↔ nn R (1366 + 3 * g + 2) ≤ h) := by
  obtain ⟨h1, h2⟩ := hG g hg
  refine ⟨h2, fun h hh => ?_⟩
  rcases h1 with e | e
  · have e0 : nn R (1366 + 3 * g + 2) = 0 := nn_m1 e
    rw [e, e0]
    refine ⟨fun _ => Nat.zero_le h, fun _ => ?_⟩
    exact Int32.le_trans (show (-1 : Int32) ≤ nI 0 by decide) (nI_le (Nat.zero_le h) (by omega))
  · rw [e]
    exact nI_leI (by omega) (by omega)
theorem dg107 {k : Nat → Int32 → Int32 → Dt → Option (Int32 × Dt)} {Q : Int32 × Dt → Prop} (hK : KS sh z) (h : RI d z R K u) (hR : WF R) (hg : g < nn R 2) (kk : ∀ v, Rn (k (z + 242) v (nI (g + 1)) d) Q) : ∀ (m c fu : Nat) (v : Int32), c + m = nn R (1366 + 3 * g + 2) → m < fu → Rn (f_X12_digest_107 N sh k fu (z + 242) v (nI g) (nI c) d) Q
  | 0, c, fu, v, hc, hf => by
    obtain ⟨fu, rfl⟩ : ∃ q, fu = q + 1 := ⟨fu - 1, by omega⟩
    have n2 := hR.1.2.2.1
    obtain ⟨b1, b2⟩ := hrs_le hR.2.1 hg
    show Rn (g_X12_digest_107 N sh k (f_X12_digest_107 N sh k fu) (z + 242) v (nI g) (nI c) d) _
    unfold g_X12_digest_107 f_X12_digest_141
    rw [nI_1]
    refine rdga hK h.1 2 (by omega) (by decide) rfl ?_
    refine rn_t ((b2 c (by omega)).mpr (by omega)) ?_
    exact kk v
  | m + 1, c, fu, v, hc, hf => by
    obtain ⟨fu, rfl⟩ : ∃ q, fu = q + 1 := ⟨fu - 1, by omega⟩
    have n2 := hR.1.2.2.1
    obtain ⟨b1, b2⟩ := hrs_le hR.2.1 hg
    show Rn (g_X12_digest_107 N sh k (f_X12_digest_107 N sh k fu) (z + 242) v (nI g) (nI c) d) _
    unfold g_X12_digest_107
    refine rdga hK h.1 2 (by omega) (by decide) rfl ?_
    refine rn_f (fun q => absurd ((b2 c (by omega)).mp q) (by omega)) ?_
    refine rn_eq (m_tells hK h.1 (by omega) (by omega)) ?_
    rw [nI_1]
    exact dg107 hK h hR hg kk m (c + 1) fu _ (by omega) (by omega)
theorem rdga0 {β : Type} {Q : β → Prop} {g : Int32 → Option β} {p : Nat} (hK : KS sh z) (hA : AG (d.1 (z + 243)) R) (hp : p < 20) (kk : Rn (g (R (1366 + 3 * p))) Q) : Rn ((gP sh (z + 242) 12 0).bind fun v1 => (f_X12_ga N sh (z + 242) (nI p) d).bind fun v2 => (aT 0 sh d v1 v2).bind g) Q := by
  refine r_gP hK 242 12 0 243 rfl (by decide) ?_
  refine rn_eq (m_ga hK) ?_
  refine rn_eq (q_aT (ks_a hK 243 0 15642 rfl) (1366 + 3 * p) ?_ (by omega) (by decide)) ?_
  · rw [show (1366 : Int32) = nI 1366 from rfl, show (3 : Int32) = nI 3 from rfl, pk_mul, nI_add]
  · rw [hA _ (by omega)]
    exact kk
theorem dg63 (hN2 : 2100 ≤ N) (hK : KS sh z) (h : RI d z R K u) (hR : WF R) : ∀ (m i fu : Nat) (v : Int32), i + m = nn R 2 → m < fu → Rn (f_X12_digest_63 N sh fu (z + 242) v (nI i) d) (RR z R K u d)
  | 0, i, fu, v, hc, hf => by
    obtain ⟨fu, rfl⟩ : ∃ q, fu = q + 1 := ⟨fu - 1, by omega⟩
    have n2 := hR.1.2.2.1
    have n3 := hR.1.2.2.2.1
    show Rn (g_X12_digest_63 N sh (f_X12_digest_63 N sh fu) (z + 242) v (nI i) d) _
    unfold g_X12_digest_63 f_X12_digest_147
    refine rdg hK h.1 2 rfl (by decide) ?_
    rw [n2.1]
    refine rn_t (nI_le (by omega) (by omega)) ?_
    exact dg149 hN2 hK h hR (nn R 3) 0 N v (by omega) (by omega)
  | m + 1, i, fu, v, hc, hf => by
    obtain ⟨fu, rfl⟩ : ∃ q, fu = q + 1 := ⟨fu - 1, by omega⟩
    have n2 := hR.1.2.2.1
    have hi : i < nn R 2 := by omega
    show Rn (g_X12_digest_63 N sh (f_X12_digest_63 N sh fu) (z + 242) v (nI i) d) _
    unfold g_X12_digest_63
    refine rdg hK h.1 2 rfl (by decide) ?_
    rw [n2.1]
    refine rn_f (nI_ge (by omega) (by omega)) ?_
    refine rdga0 hK h.1 (by omega) ?_
    refine rdga hK h.1 2 (by omega) (by decide) rfl ?_
    have b := (hrs_le hR.2.1 hi).1
    exact dg107 hK h hR hi (fun v => dg63 hN2 hK h hR m (i + 1) fu v (by omega) (by omega)) (nn R (1366 + 3 * i + 2)) 0 N _ (by omega) (by omega)
theorem dg25 {k : Nat → Int32 → Int32 → Dt → Option (Int32 × Dt)} {Q : Int32 × Dt → Prop} (hK : KS sh z) (h : RI d z R K u) (ht : t < 150) (kk : ∀ v, Rn (k (z + 242) v (nI (t + 1)) d) Q) : ∀ (m c fu : Nat) (v : Int32), c + m = 9 → m < fu → Rn (f_X12_digest_25 N sh k fu (z + 242) v (nI t) (nI c) d) Q
  | 0, c, fu, v, hc, hf => by
    obtain ⟨fu, rfl⟩ : ∃ q, fu = q + 1 := ⟨fu - 1, by omega⟩
    show Rn (g_X12_digest_25 N sh k (f_X12_digest_25 N sh k fu) (z + 242) v (nI t) (nI c) d) _
    unfold g_X12_digest_25 f_X12_digest_55
    rw [nI_1]
    refine rn_t (nI_le (a := 9) (by omega) (by omega)) ?_
    exact kk v
  | m + 1, c, fu, v, hc, hf => by
    obtain ⟨fu, rfl⟩ : ∃ q, fu = q + 1 := ⟨fu - 1, by omega⟩
    show Rn (g_X12_digest_25 N sh k (f_X12_digest_25 N sh k fu) (z + 242) v (nI t) (nI c) d) _
    unfold g_X12_digest_25
    refine rn_f (nI_ge (b := 9) (by omega) (by decide)) ?_
    refine rds hK h.1 c ht (by omega) rfl ?_
    rw [nI_1]
    exact dg25 hK h ht kk m (c + 1) fu _ (by omega) (by omega)
theorem dg13 (hN2 : 2100 ≤ N) (hK : KS sh z) (h : RI d z R K u) (hR : WF R) : ∀ (m i fu : Nat) (v : Int32), i + m = nn R 1 → m < fu → Rn (f_X12_digest_13 N sh fu (z + 242) v (nI i) d) (RR z R K u d)
  | 0, i, fu, v, hc, hf => by
    obtain ⟨fu, rfl⟩ : ∃ q, fu = q + 1 := ⟨fu - 1, by omega⟩
    have n1 := hR.1.2.1
    have n2 := hR.1.2.2.1
    show Rn (g_X12_digest_13 N sh (f_X12_digest_13 N sh fu) (z + 242) v (nI i) d) _
    unfold g_X12_digest_13 f_X12_digest_61
    refine rdg hK h.1 1 rfl (by decide) ?_
    rw [n1.1]
    refine rn_t (nI_le (by omega) (by omega)) ?_
    exact dg63 hN2 hK h hR (nn R 2) 0 N v (by omega) (by omega)
  | m + 1, i, fu, v, hc, hf => by
    obtain ⟨fu, rfl⟩ : ∃ q, fu = q + 1 := ⟨fu - 1, by omega⟩
    have n1 := hR.1.2.1
    show Rn (g_X12_digest_13 N sh (f_X12_digest_13 N sh fu) (z + 242) v (nI i) d) _
    unfold g_X12_digest_13
    refine rdg hK h.1 1 rfl (by decide) ?_
    rw [n1.1]
    refine rn_f (nI_ge (by omega) (by omega)) ?_
    exact dg25 hK h (by omega) (fun v => dg13 hN2 hK h hR m (i + 1) fu v (by omega) (by omega)) 9 0 N v rfl (by omega)
theorem m_digest (hN2 : 2100 ≤ N) (hK : KS sh z) (h : RI d z R K u) (hR : WF R) : Rn (f_X12_digest N sh (z + 242) d) (RR z R K u d) := by
  have n1 := hR.1.2.1
  unfold f_X12_digest
  refine rn_t (ks_o hK 242 12 rfl) ?_
  refine rdg hK h.1 0 rfl (by decide) ?_
  exact dg13 hN2 hK h hR (nn R 1) 0 N _ (by omega) (by omega)
/-! the class -/
theorem do15 {o nc S : Nat} {V : Nat → Nat → Int32} {L : Nat → Nat} {k : Nat → Int32 → Int32 → Option Int32} {Q : Int32 → Prop} (hK : KS sh z) (hk : tck o nc = true) (ht : TB sh d z ow o nc S V L) (hi : i < S) (kk : ∀ v, Rn (k (z + o) v (nI (i + 1))) Q) : ∀ (m c fu : Nat) (v : Int32), c + m = nc → m < fu → Rn (f_X8_digestOf_15 N sh k d fu (z + o) v (nI i) (nI c)) Q
  | 0, c, fu, v, hc, hf => by
    obtain ⟨fu, rfl⟩ : ∃ q, fu = q + 1 := ⟨fu - 1, by omega⟩
    have hn := tck_n hk
    show Rn (g_X8_digestOf_15 N sh k (f_X8_digestOf_15 N sh k d fu) (z + o) v (nI i) (nI c) d) _
    unfold g_X8_digestOf_15 f_X8_digestOf_46
    rw [nI_1]
    refine r_gP hK o 8 0 (o + 1) (tck_1 hk) (tck_3 hk) ?_
    refine rn_eq (q_len (ks_a hK (o + 1) 5 nc (tck_2 hk)) (by decide)) ?_
    refine rn_t (nI_le (by omega) (by omega)) ?_
    exact kk v
  | m + 1, c, fu, v, hc, hf => by
    obtain ⟨fu, rfl⟩ : ∃ q, fu = q + 1 := ⟨fu - 1, by omega⟩
    have hn := tck_n hk
    obtain ⟨a, ha, hw, hA, hL, hSL, hLb, hV⟩ := ht.2 c (by omega)
    show Rn (g_X8_digestOf_15 N sh k (f_X8_digestOf_15 N sh k d fu) (z + o) v (nI i) (nI c) d) _
    unfold g_X8_digestOf_15
    refine r_gP hK o 8 0 (o + 1) (tck_1 hk) (tck_3 hk) ?_
    refine rn_eq (q_len (ks_a hK (o + 1) 5 nc (tck_2 hk)) (by decide)) ?_
    refine rn_f (nI_ge (by omega) (by omega)) ?_
    refine r_gP hK o 8 0 (o + 1) (tck_1 hk) (tck_3 hk) ?_
    refine rn_eq (q_aQ (ks_a hK (o + 1) 5 nc (tck_2 hk)) c a rfl (by omega) (by omega) ha) ?_
    refine rn_eq (q_aT ⟨hA, hL⟩ i rfl (by omega) (by omega)) ?_
    rw [nI_1]
    exact do15 hK hk ht hi kk m (c + 1) fu _ (by omega) (by omega)
theorem do4 {o nc S : Nat} {V : Nat → Nat → Int32} {L : Nat → Nat} (hN2 : 2100 ≤ N) (hK : KS sh z) (hk : tck o nc = true) (hS : S ≤ 2000) (ht : TB sh d z ow o nc S V L) : ∀ (m i fu : Nat) (v : Int32), i + m = S → m < fu → Rn (f_X8_digestOf_4 N sh d fu (z + o) v (nI i)) (fun _ => True)
  | 0, i, fu, v, hc, hf => by
    obtain ⟨fu, rfl⟩ : ∃ q, fu = q + 1 := ⟨fu - 1, by omega⟩
    show Rn (g_X8_digestOf_4 N sh (f_X8_digestOf_4 N sh d fu) (z + o) v (nI i) d) _
    unfold g_X8_digestOf_4 f_X8_digestOf_52
    refine r_gI hK (tck_1 hk) ?_
    rw [ht.1]
    exact rn_t (nI_le (by omega) (by omega)) (rn_some trivial)
  | m + 1, i, fu, v, hc, hf => by
    obtain ⟨fu, rfl⟩ : ∃ q, fu = q + 1 := ⟨fu - 1, by omega⟩
    have hn := tck_n hk
    show Rn (g_X8_digestOf_4 N sh (f_X8_digestOf_4 N sh d fu) (z + o) v (nI i) d) _
    unfold g_X8_digestOf_4
    refine r_gI hK (tck_1 hk) ?_
    rw [ht.1]
    refine rn_f (nI_ge (by omega) (by omega)) ?_
    exact do15 hK hk ht (by omega) (fun v => do4 hN2 hK hk hS ht m (i + 1) fu v (by omega) (by omega)) nc 0 N v (by omega) (by omega)
theorem k_digestOf {v : Int32} {o nc S : Nat} {V : Nat → Nat → Int32} {L : Nat → Nat} (hN2 : 2100 ≤ N) (hK : KS sh z) (hk : tck o nc = true) (hS : S ≤ 2000) (ht : TB sh d z ow o nc S V L) : Rn (f_X8_digestOf N sh (z + o) v d) (fun _ => True) := by
  unfold f_X8_digestOf
  refine rn_t (ks_o hK o 8 (tck_1 hk)) ?_
  exact do4 hN2 hK hk hS ht S 0 N v (by omega) (by omega)
theorem dk79 {k : Nat → Int32 → Int32 → Dt → Option (Int32 × Dt)} {Q : Int32 × Dt → Prop} (hK : KS sh z) (hR : WF R) (hB : BK sh d z ow 3 R q) (hg : g < nn R 2) (kk : ∀ v, Rn (k z v (nI (g + 1)) d) Q) : ∀ (m c fu : Nat) (v : Int32), c + m = nn R (1366 + 3 * g + 2) → m < fu → Rn (f_X11_digest_79 N sh k fu z v (nI g) (R (1366 + 3 * g + 2)) (nI c) d) Q
  | 0, c, fu, v, hc, hf => by
    obtain ⟨fu, rfl⟩ : ∃ q, fu = q + 1 := ⟨fu - 1, by omega⟩
    obtain ⟨b1, b2⟩ := hrs_le hR.2.1 hg
    show Rn (g_X11_digest_79 N sh k (f_X11_digest_79 N sh k fu) z v (nI g) (R (1366 + 3 * g + 2)) (nI c) d) _
    unfold g_X11_digest_79 f_X11_digest_107
    rw [nI_1]
    refine rn_t ((b2 c (by omega)).mpr (by omega)) ?_
    exact kk v
  | m + 1, c, fu, v, hc, hf => by
    obtain ⟨fu, rfl⟩ : ∃ q, fu = q + 1 := ⟨fu - 1, by omega⟩
    obtain ⟨b1, b2⟩ := hrs_le hR.2.1 hg
    show Rn (g_X11_digest_79 N sh k (f_X11_digest_79 N sh k fu) z v (nI g) (R (1366 + 3 * g + 2)) (nI c) d) _
    unfold g_X11_digest_79
    refine rn_f (fun q => absurd ((b2 c (by omega)).mp q) (by omega)) ?_
    rw [← z0 (z := z)]
    refine r_gP hK 0 11 1 3 rfl (by decide) ?_
    rw [z0 (z := z)]
    refine rn_eq (k_tenths hK hR.1 hR.2.1 hR.2.2.2.1 hB hg (by omega)) ?_
    rw [nI_1]
    exact dk79 hK hR hB hg kk m (c + 1) fu _ (by omega) (by omega)
theorem dk26 (hN2 : 2100 ≤ N) (h : CI s z ow R K u y cc) (hR : WF R) : ∀ (m i fu : Nat) (v : Int32), i + m = nn R 2 → m < fu → Rn (f_X11_digest_26 N s.1 fu z v (nI i) s.2) (KR z R K u cc s)
  | 0, i, fu, v, hc, hf => by
    obtain ⟨fu, rfl⟩ : ∃ q, fu = q + 1 := ⟨fu - 1, by omega⟩
    have hK := h.1
    have hB : BK s.1 s.2 z ow 3 R y.1 := h.2.2.1
    have n2 := hR.1.2.2.1
    have n3 := hR.1.2.2.2.1
    have n4 := hR.1.2.2.2.2
    show Rn (g_X11_digest_26 N s.1 (f_X11_digest_26 N s.1 fu) z v (nI i) s.2) _
    unfold g_X11_digest_26
    refine r_now hK 2 15 (by decide) ?_
    refine r_gI hK (i := 15) (c := 8) rfl ?_
    rw [hB.2.2.1.1]
    refine rn_t (nI_le (by omega) (by omega)) ?_
    unfold f_X11_digest_113
    refine r_now hK 3 20 (by decide) ?_
    refine rn_bind (k_digestOf hN2 hK (by decide) (by omega) hB.2.2.2.1) (fun v17 _ => ?_)
    refine r_now hK 4 31 (by decide) ?_
    refine rn_bind (k_digestOf hN2 hK (by decide) (by omega) hB.2.2.2.2.1) (fun v20 _ => ?_)
    exact kr_says h
  | m + 1, i, fu, v, hc, hf => by
    obtain ⟨fu, rfl⟩ : ∃ q, fu = q + 1 := ⟨fu - 1, by omega⟩
    have hK := h.1
    have hB : BK s.1 s.2 z ow 3 R y.1 := h.2.2.1
    have n2 := hR.1.2.2.1
    have hi : i < nn R 2 := by omega
    show Rn (g_X11_digest_26 N s.1 (f_X11_digest_26 N s.1 fu) z v (nI i) s.2) _
    unfold g_X11_digest_26
    refine r_now hK 2 15 (by decide) ?_
    refine r_gI hK (i := 15) (c := 8) rfl ?_
    rw [hB.2.2.1.1]
    refine rn_f (nI_ge (by omega) (by omega)) ?_
    refine r_now hK 2 15 (by decide) ?_
    refine rn_eq (tb_get (o := 15) (nc := 3) (c := 2) hK (by decide) hB.2.2.1 rfl hi rfl (by decide)) ?_
    refine r_now hK 2 15 (by decide) ?_
    refine rn_eq (tb_get (o := 15) (nc := 3) (c := 0) hK (by decide) hB.2.2.1 rfl hi rfl (by decide)) ?_
    have b := (hrs_le hR.2.1 hi).1
    exact dk79 hK hR hB hi (fun v => dk26 hN2 h hR m (i + 1) fu v (by omega) (by omega)) (nn R (1366 + 3 * i + 2)) 0 N _ (by omega) (by omega)
theorem k_digest (hN2 : 2100 ≤ N) (h : CI s z ow R K u y cc) (hR : WF R) : Rn (f_X11_digest N s.1 z s.2) (KR z R K u cc s) := by
  have hK := h.1
  have hB : BK s.1 s.2 z ow 3 R y.1 := h.2.2.1
  have n1 := hR.1.2.1
  have n2 := hR.1.2.2.1
  unfold f_X11_digest
  rw [← z0 (z := z)]
  refine rn_t (ks_o hK 0 11 rfl) ?_
  refine r_gP hK 0 11 1 3 rfl (by decide) ?_
  refine r_gI hK (i := 3) (c := 1) rfl ?_
  rw [z0 (z := z)]
  refine r_now hK 1 4 (by decide) ?_
  refine rn_bind (k_digestOf hN2 hK (by decide) (by omega) hB.2.1) (fun v5 _ => ?_)
  exact dk26 hN2 h hR (nn R 2) 0 N v5 (by omega) (by omega)
/-! sign() -/
theorem m_sign {x : Int32} (hK : KS sh z) (h : RI d z R K u) : Rn (f_X12_sign N sh (z + 242) x d) (fun _ => True) := by
  obtain ⟨g, hg, e⟩ := h.2.2.2.1
  unfold f_X12_sign f_X12_sign_24
  refine rn_t (ks_o hK 242 12 rfl) ?_
  refine r_gI hK (i := 242) (c := 12) rfl ?_
  refine rn_eq m_in ?_
  refine rn_ite (fun _ => rn_some trivial) (fun q => ?_)
  rw [e] at q
  have q2 : ¬ (x < 0 ∨ nI g ≤ x) := fun r => q (ite01.mpr (r.imp id (fun r => (lt_pred (by omega)).mpr r)))
  obtain ⟨i, hi, rfl, -⟩ := st_of (by omega) q2
  refine r_gP hK 242 12 7 246 rfl (by decide) ?_
  refine rn_eq (q_aT (ks_a hK 246 3 8000 rfl) i rfl (by omega) (by decide)) ?_
  exact rn_some trivial
theorem k_sign {x : Int32} (h : CI s z ow R K u y cc) : Rn (f_X11_sign N s.1 z x s.2) (fun _ => True) := by
  have hK := h.1
  obtain ⟨a, g, e1, -, e3, e4, -, e6, e7, e8, -⟩ := h.2.2.2.2.1.2.2.2
  unfold f_X11_sign f_X11_sign_21 f_X11_sign_22
  rw [← z0 (z := z)]
  refine rn_t (ks_o hK 0 11 rfl) ?_
  refine rn_ite (fun _ => rn_some trivial) (fun h1 => ?_)
  refine r_gI hK (i := 0) (c := 11) rfl ?_
  rw [e7]
  refine rn_ite (fun _ => rn_some trivial) (fun h2 => ?_)
  obtain ⟨i, hi, rfl, -⟩ := st_of (by omega) (fun r => r.elim h1 h2)
  refine r_gQ hK a e1 (i := 0) (c := 11) rfl ?_
  refine rn_eq (q_aT ⟨e3, e4⟩ i rfl (by omega) (by omega)) ?_
  exact rn_some trivial
end DIG
/-! 9t.text.lean.txt -/
/-! text() of both: they run, and answer -/
theorem nar_c (v : Int32) : fits .char (.int (vp_nar .char v)) = true := by
  rw [vp_nar_char]
  have h : v.toUInt32.toUInt16.toNat < 65536 := v.toUInt32.toUInt16.toNat_lt
  have e : v.toUInt32.toUInt16.toUInt32.toInt32 = nI v.toUInt32.toUInt16.toNat := by
    apply Int32.toBitVec_inj.mp
    apply BitVec.eq_of_toNat_eq
    simp [nI]
    rw [Nat.mod_eq_of_lt (a := v.toUInt32.toNat % 65536) (by omega)]
    rfl
  rw [e]
  show (decide ((0 : Int32) ≤ nI v.toUInt32.toUInt16.toNat) && decide (nI v.toUInt32.toUInt16.toNat ≤ (65535 : Int32))) = true
  rw [Bool.and_eq_true, decide_eq_true_iff, decide_eq_true_iff]
  exact ⟨nI_le (a := 0) (Nat.zero_le _) (by omega), nI_le (b := 65535) (by omega) (by decide)⟩
theorem dv10 {x : Int32} : o_idiv x 10 = some (x / 10) := if_neg (by decide)
theorem dv100 {x : Int32} : o_idiv x 100 = some (x / 100) := if_neg (by decide)
theorem rm10 {x : Int32} : o_irem x 10 = some (x - x / 10 * 10) := if_neg (by decide)
section TXT
variable {s s' s0 : AS} {sh : Sh} {d d0 d' : Dt} {z : Nat} {ow ow' : Nat → Nat} {R K : Nat → Int32} {u : Bool} {y : YL} {N cc i p g D : Nat} {q : BL} {l3 : Int32}
/-- signs still to come behind the digits -/
def exL (l3 : Int32) : Nat := if l3 = -1 then 0 else 1
theorem ci_tx {Lg' : Nat} (h : CI s z ow R K u y cc) (he : ES (IX z ow 0 0) s ow s' ow') (h13 : s'.2.1 (z + 0) 13 = s.2.1 (z + 0) 13) (ht : ∃ a g, s'.2.2.2.2 (z + 0) 11 = some a ∧ ow' a = 1 ∧ isA s'.1 a 3 ∧ s'.1.2.2.1 a = Lg' ∧ 16 ≤ Lg' ∧ Lg' ≤ 16000 ∧ s'.2.1 (z + 0) 12 = nI g ∧ g ≤ Lg' ∧ ∀ i, i < g → fits .char (.int (s'.2.1 a i)) = true) (m1 : s'.1.1.2.2 + 2 * y.2.2.2.2 ≤ s.1.1.2.2 + 2 * Lg') (m2 : 4 * s'.1.1.2.1 + y.2.2.2.2 ≤ 4 * s.1.1.2.1 + Lg') : CI s' z ow' R K u (y.1, y.2.1, y.2.2.1, y.2.2.2.1, Lg') cc ∧ RFR z s s' := by
  obtain ⟨hK, hw, b1, b2, b3, b4, b5, b6, b7, b8, b9, b10, b11⟩ := h
  have hcs : CS s'.1 s'.2 z ow' y.2.2.1 y.2.2.2.1 Lg' := by
    obtain ⟨⟨h1, h2, h3⟩, ⟨⟨S, V, h4, h5⟩, h6⟩, ⟨a, t1, t2, t3, t4, t5, t6⟩, -⟩ := b3
    have e1 := he.1
    have e2 := he.2.1
    have qa := he.2.2 a t3.2.1
    have r78 := es_row hK hw he (i := 78) (by decide) (by omega)
    have r140 := es_row hK hw he (i := 140) (by decide) (by omega)
    have r203 := es_row hK hw he (i := 203) (by decide) (by omega)
    have r201 := es_row hK hw he (i := 201) (by decide) (by omega)
    have l1 := t3.2.1
    exact ⟨⟨fun c hc => by rw [r78.2.2.2]; exact h1 c hc, fun c hc => by rw [r140.2.2.2]; exact h2 c hc, fun c hc => by rw [r203.2.2.2]; exact h3 c hc⟩, ⟨⟨S, V, tb_ix h4 hK hw (by decide) he (by omega), h5⟩, h6⟩, ⟨a, by rw [r201.2.2.2]; exact t1, by rw [qa.2.2.2.1]; exact t2, ⟨by rw [e1]; exact t3.1, by omega, by rw [qa.1]; exact t3.2.2⟩, by rw [qa.2.1]; exact t4, t5, t6⟩, ht⟩
  refine ⟨⟨KS.es hK he, OWS.es hw hK he, bk_ix b1 (Or.inl rfl) hK hw he (by omega), bk_ix b2 (Or.inr rfl) hK hw he (by omega), hcs, pb_ix b4 hK hw he (by omega) (by omega), pb_ix b5 hK hw he (by omega) (by omega), wy_ix b6 hK hw he (by omega), prl_ix b7 hK hw he (by omega), prt_ix b8 b3 hK hw he (by omega), by rw [h13]; exact b9, ?_, ?_, tln_eq b11.2 (congrFun (es_row hK hw he (i := 201) (by decide) (by omega)).1 7)⟩, RFR.ix hK hw he (by omega)⟩
  · show s'.1.1.2.2 ≤ 75638 + 2 * (pot y.1 + pot y.2.1 + smN y.2.2.1 4 + y.2.2.2.1 + Lg') + 5 * cc
    omega
  · have b11 := b11.1
    show 4 * s'.1.1.2.1 ≤ 4 * (z + 264) + (pot y.1 + pot y.2.1 + smN y.2.2.1 4 + 4 * y.2.2.2.1 + Lg') + 4 * cc
    omega
def TXI (s0 : AS) (z : Nat) (R K : Nat → Int32) (u : Bool) (cc g : Nat) (s : AS) : Prop := RFR z s0 s ∧ ∃ ow y, CI s z ow R K u y cc ∧ s.2.1 (z + 0) 12 = nI g
theorem k_put41 {v : Int32} (h : CI s z ow R K u y cc) (e7 : s.2.1 (z + 0) 12 = nI g) (hg : g < y.2.2.2.2) : Rn (f_X11_put_41 N (z + 0) v s) (TXI s z R K u cc (g + 1)) := by
  have hK := h.1
  have hw := h.2.1
  obtain ⟨a, g', e1, e2, e3, e4, e5, e6, e8, e9, e10⟩ := h.2.2.2.2.1.2.2.2
  have eg : g' = g := nI_inj (e8.symm.trans e7) (by omega) (by omega)
  subst eg
  have w0 := hw 0 (by decide) (by decide)
  have hne : a ≠ z + 0 := fun e => by rw [e, w0] at e2; omega
  unfold f_X11_put_41
  refine r_gQ hK a e1 (i := 0) (c := 11) rfl ?_
  refine r_gI hK (i := 0) (c := 11) rfl ?_
  rw [e7]
  refine rn_eq (q_sC ⟨e3, e4⟩ g' rfl hg (by omega)) ?_
  refine r_gI hK (i := 0) (c := 11) rfl ?_
  rw [wI_n (Ne.symm hne), e7, nI_1]
  refine r_pI hK (i := 0) (c := 11) rfl ?_
  have fd : FD (IX z ow 0 0) s.2 (wI (wI s.2 a g' (vp_nar .char v)) (z + 0) 12 (nI (g' + 1))) := fun b hb => by
    have b1 : b ≠ a := fun e => hb (by rw [e]; unfold IX; rw [onr_r (o := 0) (k := 0) e2 (by omega)]; omega)
    have b2 : b ≠ z + 0 := fun e => hb (by rw [e]; unfold IX; rw [onr_s w0 (by decide)]; omega)
    exact ⟨by rw [wI_n b2, wI_n b1], rfl, rfl, rfl⟩
  have es : ES (IX z ow 0 0) s ow (s.1, wI (wI s.2 a g' (vp_nar .char v)) (z + 0) 12 (nI (g' + 1))) ow := FD.es (sh := s.1) (d := s.2) fd
  have c1 := ci_tx (Lg' := y.2.2.2.2) h es ?_ ⟨a, g' + 1, e1, e2, e3, e4, e5, e6, ?_, by omega, fun j hj => ?_⟩ (Nat.le_refl _) (Nat.le_refl _)
  · refine rn_some ⟨c1.2, ow, _, c1.1, ?_⟩
    show (wI (wI s.2 a g' (vp_nar .char v)) (z + 0) 12 (nI (g' + 1))).1 (z + 0) 12 = _
    rw [wI_s, va_up_s]
  · show (wI (wI s.2 a g' (vp_nar .char v)) (z + 0) 12 (nI (g' + 1))).1 (z + 0) 13 = _
    rw [wI_s, va_up_n (by decide), wI_n (Ne.symm hne)]
  · show (wI (wI s.2 a g' (vp_nar .char v)) (z + 0) 12 (nI (g' + 1))).1 (z + 0) 12 = _
    rw [wI_s, va_up_s]
  · show fits .char (.int ((wI (wI s.2 a g' (vp_nar .char v)) (z + 0) 12 (nI (g' + 1))).1 a j)) = true
    rw [wI_n hne, wI_s]
    by_cases ej : j = g'
    · rw [ej, va_up_s]
      exact nar_c v
    · rw [va_up_n ej]
      exact e10 j (by omega)
theorem TXI.tr {g' : Nat} (hf : RFR z s0 s) (h : TXI s z R K u cc g' s') : TXI s0 z R K u cc g' s' := ⟨hf.tr h.1, h.2⟩
theorem k_put {v : Int32} (h : TXI s0 z R K u cc g s) (hg : g < 8000) : Rn (f_X11_put N z v s) (TXI s0 z R K u cc (g + 1)) := by
  obtain ⟨hf, ow, y, h, e7⟩ := h
  have hK := h.1
  have hw := h.2.1
  obtain ⟨a, g', e1, e2, e3, e4, e5, e6, e8, e9, e10⟩ := h.2.2.2.2.1.2.2.2
  have eg : g' = g := nI_inj (e8.symm.trans e7) (by omega) (by omega)
  subst eg
  have w0 := hw 0 (by decide) (by decide)
  have hne : a ≠ z + 0 := fun e => by rw [e, w0] at e2; omega
  have mn : ∀ {o : Option AS} {s1 : AS}, RFR z s0 s1 → Rn o (TXI s1 z R K u cc (g' + 1)) → Rn o (TXI s0 z R K u cc (g' + 1)) := fun f r => by
    obtain ⟨r1, r2, r3⟩ := r
    exact ⟨r1, r2, r3.tr f⟩
  unfold f_X11_put
  have zz := z0 (z := z)
  show Rn (if isO s.1 z 11 then _ else none) _
  refine rn_t (by rw [← zz]; exact ks_o hK 0 11 rfl) ?_
  rw [show gI s.1 s.2 z 11 12 = gI s.1 s.2 (z + 0) 11 12 from rfl]
  refine r_gI hK (i := 0) (c := 11) rfl ?_
  rw [show gQ s.1 s.2 z 11 11 = gQ s.1 s.2 (z + 0) 11 11 from rfl]
  refine r_gQ hK a e1 (i := 0) (c := 11) rfl ?_
  refine rn_eq (q_len ⟨e3, e4⟩ (by decide)) ?_
  rw [e7]
  refine rn_ite (fun q1 => ?_) (fun q1 => ?_)
  · have q1 := (nI_ltI (by omega) (by omega)).mp q1
    exact mn hf (k_put41 h e7 q1)
  · have q1 : y.2.2.2.2 ≤ g' := Nat.le_of_not_lt (fun r => q1 (nI_lt r (by omega)))
    refine r_gQ hK a e1 (i := 0) (c := 11) rfl ?_
    refine rn_eq (q_len ⟨e3, e4⟩ (by decide)) ?_
    have hz := hK.2.1
    have hz1 := hK.1
    have e22 : (2 : Int32) * nI y.2.2.2.2 = nI (2 * y.2.2.2.2) := pk_mul 2 _
    rw [e22]
    have hnew : nArr (s.1, s.2) 3 (nI (2 * y.2.2.2.2)) = some (push s 3 (2 * y.2.2.2.2) (2 * y.2.2.2.2)) := by
      unfold nArr
      rw [nI_clamp (by omega), if_pos ⟨nI_pos (by omega), by omega⟩]
    refine rn_eq hnew ?_
    have hlt : a < s.1.1.2.1 := e3.2.1
    have hes : ES (IX z ow 0 0) s ow (push s 3 (2 * y.2.2.2.2) (2 * y.2.2.2.2)) (va_up ow s.1.1.2.1 1) := push_es (q := 1)
    have hK1 : KS (push s 3 (2 * y.2.2.2.2) (2 * y.2.2.2.2)).1 z := KS.es hK hes
    have hA := push_A (s := s) (t := 3) (n := 2 * y.2.2.2.2) (m := 2 * y.2.2.2.2) (a := a) ⟨e3, e4⟩
    have hB := push_N (s := s) (t := 3) (n := 2 * y.2.2.2.2) (m := 2 * y.2.2.2.2) (by omega)
    have pA : (push s 3 (2 * y.2.2.2.2) (2 * y.2.2.2.2)).2.1 a = s.2.1 a := va_up_n (by omega)
    have p0 : (push s 3 (2 * y.2.2.2.2) (2 * y.2.2.2.2)).2.1 (z + 0) = s.2.1 (z + 0) := va_up_n (by omega)
    have pQ0 : (push s 3 (2 * y.2.2.2.2) (2 * y.2.2.2.2)).2.2.2.2 (z + 0) = s.2.2.2.2 (z + 0) := va_up_n (by omega)
    have hcp : cpy (push s 3 (2 * y.2.2.2.2) (2 * y.2.2.2.2)).1 (push s 3 (2 * y.2.2.2.2) (2 * y.2.2.2.2)).2 a (0 : Int32) s.1.1.2.1 (0 : Int32) (nI g') = some (va_up (push s 3 (2 * y.2.2.2.2) (2 * y.2.2.2.2)).2.1 s.1.1.2.1 (va_cpy ((push s 3 (2 * y.2.2.2.2) (2 * y.2.2.2.2)).2.1 a) ((push s 3 (2 * y.2.2.2.2) (2 * y.2.2.2.2)).2.1 s.1.1.2.1) 0 0 g'), (push s 3 (2 * y.2.2.2.2) (2 * y.2.2.2.2)).2.2) := by
      unfold cpy
      rw [if_neg (by rw [hA.1.2.2]; decide), if_pos (by rw [hA.1.2.2])]
      unfold cpC
      have ez : (0 : Int32).toNatClampNeg = 0 := by decide
      rw [nI_clamp (by omega), if_pos (fun i hi => by rw [ez, Nat.zero_add, pA]; exact e10 i hi)]
      unfold cpI
      rw [hA.2, hB.2, ez, nI_clamp (by omega), if_pos ⟨hA.1, hB.1, by decide, by decide, nI_pos (by omega), by omega, by omega⟩]
    have hcy : ∀ i, i < g' → va_cpy (s.2.1 a) ((push s 3 (2 * y.2.2.2.2) (2 * y.2.2.2.2)).2.1 s.1.1.2.1) 0 0 g' i = s.2.1 a i := fun i hi => by
      show (if 0 ≤ i ∧ i < 0 + g' then s.2.1 a (0 + (i - 0)) else _) = _
      rw [if_pos (by omega), Nat.sub_zero, Nat.zero_add]
    unfold f_X11_put_21
    refine r_gQ hK1 a (by rw [pQ0]; exact e1) (i := 0) (c := 11) rfl ?_
    refine r_gI hK1 (i := 0) (c := 11) rfl ?_
    rw [p0, e7]
    refine rn_eq hcp ?_
    refine r_pQ hK1 (i := 0) (c := 11) rfl ?_
    rw [pA]
    have w01 : (va_up ow s.1.1.2.1 1) (z + 0) = 0 := by rw [va_up_n (by omega)]; exact w0
    have es2 : ES (IX z ow 0 0) s ow ((push s 3 (2 * y.2.2.2.2) (2 * y.2.2.2.2)).1, wQ (va_up (push s 3 (2 * y.2.2.2.2) (2 * y.2.2.2.2)).2.1 s.1.1.2.1 (va_cpy (s.2.1 a) ((push s 3 (2 * y.2.2.2.2) (2 * y.2.2.2.2)).2.1 s.1.1.2.1) 0 0 g'), (push s 3 (2 * y.2.2.2.2) (2 * y.2.2.2.2)).2.2) (z + 0) 11 s.1.1.2.1) (va_up ow s.1.1.2.1 1) := es_fd hes (fun b hb => by
      have b1 : b ≠ s.1.1.2.1 := fun e => hb (by rw [e]; unfold IX; rw [onr_r (o := 0) (k := 0) (ow := va_up ow s.1.1.2.1 1) va_up_s (by omega)]; omega)
      have b2 : b ≠ z + 0 := fun e => hb (by rw [e]; unfold IX; rw [onr_s w01 (by decide)]; omega)
      exact ⟨va_up_n b1, rfl, rfl, up2_n b2⟩)
    have hlen : 2 * y.2.2.2.2 ≤ 16000 := by omega
    have c1 := ci_tx (Lg' := 2 * y.2.2.2.2) h es2 ?_ ⟨s.1.1.2.1, g', ?_, va_up_s, hB.1, hB.2, by omega, hlen, ?_, by omega, fun j hj => ?_⟩ ?_ ?_
    · refine mn (hf.tr c1.2) (k_put41 c1.1 ?_ (show g' < 2 * y.2.2.2.2 by omega))
      show va_up (push s 3 (2 * y.2.2.2.2) (2 * y.2.2.2.2)).2.1 s.1.1.2.1 _ (z + 0) 12 = _
      rw [va_up_n (by omega), p0, e7]
    · show va_up (push s 3 (2 * y.2.2.2.2) (2 * y.2.2.2.2)).2.1 s.1.1.2.1 _ (z + 0) 13 = _
      rw [va_up_n (by omega), p0]
    · show up2 _ (z + 0) 11 (some s.1.1.2.1) (z + 0) 11 = _
      rw [up2_s, va_up_s]
    · show va_up (push s 3 (2 * y.2.2.2.2) (2 * y.2.2.2.2)).2.1 s.1.1.2.1 _ (z + 0) 12 = _
      rw [va_up_n (by omega), p0, e7]
    · show fits .char (.int (va_up (push s 3 (2 * y.2.2.2.2) (2 * y.2.2.2.2)).2.1 s.1.1.2.1 _ s.1.1.2.1 j)) = true
      rw [va_up_s, hcy j hj]
      exact e10 j hj
    · show s.1.1.2.2 + 2 * y.2.2.2.2 + 2 * y.2.2.2.2 ≤ s.1.1.2.2 + 2 * (2 * y.2.2.2.2)
      omega
    · show 4 * (s.1.1.2.1 + 1) + y.2.2.2.2 ≤ 4 * s.1.1.2.1 + 2 * y.2.2.2.2
      omega
theorem k_w151 (h : TXI s0 z R K u cc g s) (hg : g + exL l3 ≤ 8000) : Rn (f_X11_write_151 N z l3 s) (fun r => ∃ g', g' ≤ 8000 ∧ TXI s0 z R K u cc g' r.2) := by
  unfold f_X11_write_151 f_X11_write_165
  refine rn_ite (fun _ => rn_some ⟨g, by omega, h⟩) (fun h1 => ?_)
  unfold exL at hg
  rw [if_neg h1] at hg
  exact rn_bind (k_put h (by omega)) (fun s2 hs => rn_some ⟨g + 1, hg, hs⟩)
theorem k_w139 {l2 : Int32} (h : TXI s0 z R K u cc g s) (hg : g + 1 + exL l3 ≤ 8000) : Rn (f_X11_write_139 N z l2 l3 s) (fun r => ∃ g', g' ≤ 8000 ∧ TXI s0 z R K u cc g' r.2) := by
  unfold f_X11_write_139
  refine rn_eq rm10 ?_
  exact rn_bind (k_put h (by omega)) (fun s2 hs => k_w151 hs hg)
theorem k_w118 {l2 : Int32} (h : TXI s0 z R K u cc g s) (hD : D ≤ 3) (hD1 : 1 ≤ D) (hg : g + min D 2 + exL l3 ≤ 8000) : Rn (f_X11_write_118 N z l2 l3 (nI D) s) (fun r => ∃ g', g' ≤ 8000 ∧ TXI s0 z R K u cc g' r.2) := by
  unfold f_X11_write_118
  refine rn_ite (fun q => ?_) (fun q => ?_)
  · exact k_w139 h (by omega)
  · have : ¬ D ≤ 1 := fun r => q (nI_le (b := 1) r (by decide))
    refine rn_eq dv10 ?_
    refine rn_eq rm10 ?_
    exact rn_bind (k_put h (by omega)) (fun s2 hs => k_w139 hs (by omega))
theorem k_w100 {l2 : Int32} (h : TXI s0 z R K u cc g s) (hD : D ≤ 3) (hD1 : 1 ≤ D) (hg : g + D + exL l3 ≤ 8000) : Rn (f_X11_write_100 N z l2 l3 (nI D) s) (fun r => ∃ g', g' ≤ 8000 ∧ TXI s0 z R K u cc g' r.2) := by
  unfold f_X11_write_100
  refine rn_ite (fun q => ?_) (fun q => ?_)
  · exact k_w118 h hD hD1 (by omega)
  · have : ¬ D ≤ 2 := fun r => q (nI_le (b := 2) r (by decide))
    refine rn_eq dv100 ?_
    exact rn_bind (k_put h (by omega)) (fun s2 hs => k_w118 hs hD hD1 (by omega))
theorem k_w97 {l2 v : Int32} (h : TXI s0 z R K u cc g s) (hD : D ≤ 3) (hD1 : 1 ≤ D) (hg : g + 1 + D + exL l3 ≤ 8000) : Rn (f_X11_write_97 N z l2 l3 (nI D) z v s) (fun r => ∃ g', g' ≤ 8000 ∧ TXI s0 z R K u cc g' r.2) := by
  unfold f_X11_write_97
  exact rn_bind (k_put h (by omega)) (fun s2 hs => k_w100 hs hD hD1 hg)
theorem k_w43 {l2 : Int32} (hR : WF R) (hi : i < nn R 4) (h : TXI s0 z R K u cc g s) (hg : g ≤ 8000) (hD : D ≤ 3) (hD1 : 1 ≤ D) : Rn (f_X11_write_43 N z (nI i) l2 l3 (nI D) s) (fun r => ∃ g', g' ≤ 8000 ∧ TXI s0 z R K u cc g' r.2) := by
  obtain ⟨hf, ow, y, hC, e7⟩ := id h
  have hK := hC.1
  have hB : BK s.1 s.2 z ow 3 R y.1 := hC.2.2.1
  unfold f_X11_write_43
  rw [show gI s.1 s.2 z 11 12 = gI s.1 s.2 (z + 0) 11 12 from rfl]
  refine r_gI hK (i := 0) (c := 11) rfl ?_
  rw [e7, nI_1, show nI (g + 1) + nI D = nI (g + 1 + D) from nI_add _ _]
  have go : ∀ e, e = exL l3 → Rn (f_X11_write_64 N z (nI i) l2 l3 (nI D) (nI (g + 1 + D)) (nI e) s) (fun r => ∃ g', g' ≤ 8000 ∧ TXI s0 z R K u cc g' r.2) := fun e he => by
    unfold f_X11_write_64
    rw [nI_add]
    have he1 : e ≤ 1 := by rw [he]; unfold exL; by_cases q : l3 = -1 <;> simp [q]
    refine rn_ite (fun q => ?_) (fun q => rn_some ⟨g, hg, h⟩)
    have q := (nI_leI (b := 8000) (by omega) (by decide)).mp q
    refine r_now hK 4 31 (by decide) ?_
    refine rn_eq (tb_get (o := 31) (nc := 4) (c := 3) hK (by decide) hB.2.2.2.2.1 rfl hi rfl (by decide)) ?_
    exact rn_ite (fun _ => k_w97 h hD hD1 (by omega)) (fun _ => k_w97 h hD hD1 (by omega))
  refine rn_ite (fun q => ?_) (fun q => ?_)
  · exact go 1 (by unfold exL; rw [if_neg q])
  · exact go 0 (by unfold exL; rw [if_pos (Decidable.of_not_not q)])
theorem k_who_loop {x : Int32} (hR : WF R) (hK : KS sh z) (hB : BK sh d z ow 3 R q) : ∀ (m i fu : Nat), i + m = nn R 3 → m < fu → Rn (f_X1_whoEndsAt_2 N sh d fu (z + 3) x (nI i)) (fun _ => True)
  | 0, i, fu, hc, hf => by
    obtain ⟨fu, rfl⟩ : ∃ q, fu = q + 1 := ⟨fu - 1, by omega⟩
    have n3 := hR.1.2.2.2.1
    show Rn (g_X1_whoEndsAt_2 N sh (f_X1_whoEndsAt_2 N sh d fu) (z + 3) x (nI i) d) _
    unfold g_X1_whoEndsAt_2 f_X1_whoEndsAt_52
    refine r_gP hK 3 1 3 20 rfl (by decide) ?_
    refine r_gI hK (i := 20) (c := 8) rfl ?_
    rw [hB.2.2.2.1.1]
    exact rn_t (nI_le (by omega) (by omega)) (rn_some trivial)
  | m + 1, i, fu, hc, hf => by
    obtain ⟨fu, rfl⟩ : ∃ q, fu = q + 1 := ⟨fu - 1, by omega⟩
    have n3 := hR.1.2.2.2.1
    have hi : i < nn R 3 := by omega
    show Rn (g_X1_whoEndsAt_2 N sh (f_X1_whoEndsAt_2 N sh d fu) (z + 3) x (nI i) d) _
    unfold g_X1_whoEndsAt_2
    refine r_gP hK 3 1 3 20 rfl (by decide) ?_
    refine r_gI hK (i := 20) (c := 8) rfl ?_
    rw [hB.2.2.2.1.1]
    refine rn_f (nI_ge (by omega) (by omega)) ?_
    refine r_gP hK 3 1 3 20 rfl (by decide) ?_
    refine rn_eq (tb_get (o := 20) (nc := 9) (c := 1) hK (by decide) hB.2.2.2.1 rfl hi rfl (by decide)) ?_
    have nx : Rn (f_X1_whoEndsAt_46 N sh (f_X1_whoEndsAt_2 N sh d fu) (z + 3) x (nI i) d) (fun _ => True) := by
      unfold f_X1_whoEndsAt_46
      rw [nI_1]
      exact k_who_loop hR hK hB m (i + 1) fu (by omega) (by omega)
    refine rn_ite (fun _ => nx) (fun _ => ?_)
    refine r_gP hK 3 1 3 20 rfl (by decide) ?_
    refine rn_eq (tb_get (o := 20) (nc := 9) (c := 0) hK (by decide) hB.2.2.2.1 rfl hi rfl (by decide)) ?_
    exact rn_ite (fun _ => nx) (fun _ => rn_some trivial)
theorem k_write (hNf : 300 ≤ N) (hR : WF R) (hi : i < nn R 4) (h : TXI s0 z R K u cc g s) (hg : g ≤ 8000) : Rn (f_X11_write N z (nI i) s) (fun r => ∃ g', g' ≤ 8000 ∧ TXI s0 z R K u cc g' r.2) := by
  obtain ⟨hf, ow, y, hC, e7⟩ := id h
  have hK := hC.1
  have hB : BK s.1 s.2 z ow 3 R y.1 := hC.2.2.1
  have n3 := hR.1.2.2.2.1
  unfold f_X11_write
  refine rn_t (by rw [← z0 (z := z)]; exact ks_o hK 0 11 rfl) ?_
  refine r_now hK 4 31 (by decide) ?_
  refine rn_eq (tb_get (o := 31) (nc := 4) (c := 0) hK (by decide) hB.2.2.2.2.1 rfl hi rfl (by decide)) ?_
  rw [show gP s.1 z 11 1 = gP s.1 (z + 0) 11 1 from rfl]
  refine r_gP hK 0 11 1 3 rfl (by decide) ?_
  refine rn_bind (P := fun _ => True) ?_ (fun v _ => ?_)
  · unfold f_X1_whoEndsAt
    refine rn_t (ks_o hK 3 1 rfl) ?_
    exact k_who_loop hR hK hB (nn R 3) 0 N (by omega) (by omega)
  · refine rn_ite (fun _ => ?_) (fun _ => k_w43 (D := 1) hR hi h hg (by omega) (by omega))
    exact rn_ite (fun _ => k_w43 (D := 3) hR hi h hg (by omega) (by omega)) (fun _ => k_w43 (D := 2) hR hi h hg (by omega) (by omega))
def KT (s0 : AS) (z : Nat) (R K : Nat → Int32) (u : Bool) (cc : Nat) (r : Int32 × AS) : Prop := KO z R K u cc (r.1, none) s0 r
theorem ktx_loop (hNf : 300 ≤ N) (hR : WF R) : ∀ (m i fu g : Nat) (l1 : Int32) (s : AS), i + m = nn R 4 → m < fu → TXI s0 z R K u cc g s → g ≤ 8000 → Rn (f_X11_text_9 N fu z l1 (nI i) s) (KT s0 z R K u cc)
  | m, i, fu, g, l1, s, hc, hf, h, hg => by
    obtain ⟨fu, rfl⟩ : ∃ q, fu = q + 1 := ⟨fu - 1, by omega⟩
    obtain ⟨hF, ow, y, hC, e7⟩ := id h
    have hK := hC.1
    have hB : BK s.1 s.2 z ow 3 R y.1 := hC.2.2.1
    have n4 := hR.1.2.2.2.2
    have fin : Rn (f_X11_text_39 N z s) (KT s0 z R K u cc) := by
      unfold f_X11_text_39
      rw [show gI s.1 s.2 z 11 12 = gI s.1 s.2 (z + 0) 11 12 from rfl]
      refine r_gI hK (i := 0) (c := 11) rfl ?_
      refine rn_bind (k_answer hK) (fun r hr => rn_some ?_)
      exact ⟨rfl, hF.tr (ci_lg hC hr.2).2, ow, y, (ci_lg hC hr.2).1⟩
    show Rn (g_X11_text_9 N (f_X11_text_9 N fu) z l1 (nI i) s) _
    unfold g_X11_text_9
    refine r_now hK 4 31 (by decide) ?_
    refine r_gI hK (i := 31) (c := 8) rfl ?_
    rw [hB.2.2.2.2.1.1]
    cases m with
    | zero => exact rn_t (nI_le (by omega) (by omega)) fin
    | succ m =>
      refine rn_f (nI_ge (by omega) (by omega)) ?_
      refine rn_ite (fun _ => fin) (fun _ => ?_)
      refine rn_bind (k_write hNf hR (by omega) h hg) (fun r hr => ?_)
      obtain ⟨g', b1, b2⟩ := hr
      unfold f_X11_text_32
      rw [nI_1]
      exact ktx_loop hNf hR m (i + 1) fu g' r.1 r.2 (by omega) (by omega) b2 b1
theorem k_text (hNf : 2100 ≤ N) (h : CI s z ow R K u y cc) (hR : WF R) : Rn (f_X11_text N z s) (KT s z R K u cc) := by
  have hK := h.1
  have hw := h.2.1
  have n4 := hR.1.2.2.2.2
  have w0 := hw 0 (by decide) (by decide)
  obtain ⟨a, g, e1, e2, e3, e4, e5, e6, e8, e9, e10⟩ := h.2.2.2.2.1.2.2.2
  have hne : a ≠ z + 0 := fun e => by rw [e, w0] at e2; omega
  unfold f_X11_text
  refine rn_t (by rw [← z0 (z := z)]; exact ks_o hK 0 11 rfl) ?_
  rw [show pI s.1 s.2 z 11 12 0 = pI s.1 s.2 (z + 0) 11 12 0 from rfl]
  refine r_pI hK (i := 0) (c := 11) rfl ?_
  have fd : FD (IX z ow 0 0) s.2 (wI s.2 (z + 0) 12 0) := fun b hb => by
    have b2 : b ≠ z + 0 := fun e => hb (by rw [e]; unfold IX; rw [onr_s w0 (by decide)]; omega)
    exact ⟨wI_n b2, rfl, rfl, rfl⟩
  have es : ES (IX z ow 0 0) s ow (s.1, wI s.2 (z + 0) 12 0) ow := FD.es (sh := s.1) (d := s.2) fd
  have c1 := ci_tx (Lg' := y.2.2.2.2) h es ?_ ⟨a, 0, e1, e2, e3, e4, e5, e6, ?_, by omega, fun j hj => absurd hj (Nat.not_lt_zero j)⟩ (Nat.le_refl _) (Nat.le_refl _)
  · refine ktx_loop (by omega) hR (nn R 4) 0 N 0 1 _ (by omega) (by omega) ⟨c1.2, ow, _, c1.1, ?_⟩ (by omega)
    show (wI s.2 (z + 0) 12 0).1 (z + 0) 12 = _
    rw [wI_s, va_up_s]
    rfl
  · show (wI s.2 (z + 0) 12 0).1 (z + 0) 13 = _
    rw [wI_s, va_up_n (by decide)]
  · show (wI s.2 (z + 0) 12 0).1 (z + 0) 12 = _
    rw [wI_s, va_up_s]
    rfl
/-! the reference -/
def TXR (d0 : Dt) (z : Nat) (R K : Nat → Int32) (u : Bool) (g : Nat) (d : Dt) : Prop := MFR z d0 d ∧ RI d z R K u ∧ d.1 (z + 242) 8 = nI g
theorem m_writes_ {v : Int32} (hK : KS sh z) (h : TXR d0 z R K u g d) (hg : g < 8000) : Rn (f_X12_writes_ N sh (z + 242) v d) (TXR d0 z R K u (g + 1)) := by
  obtain ⟨hM, ⟨r1, r2, r3, r4, r5⟩, e8⟩ := h
  unfold f_X12_writes_
  refine rn_t (ks_o hK 242 12 rfl) ?_
  refine r_gP hK 242 12 7 246 rfl (by decide) ?_
  refine r_gI hK (i := 242) (c := 12) rfl ?_
  rw [e8]
  refine rn_eq (q_sC (ks_a hK 246 3 8000 rfl) g rfl hg (by decide)) ?_
  refine r_gI hK (i := 242) (c := 12) rfl ?_
  rw [wI_n (by omega), e8, nI_1]
  refine r_pI hK (i := 242) (c := 12) rfl ?_
  generalize (vp_nar FieldType.char (v.toUInt32 % 65536).toInt32) = w
  have o : ∀ a, a ≠ z + 242 → a ≠ z + 246 → (wI (wI d (z + 246) g w) (z + 242) 8 (nI (g + 1))).1 a = d.1 a := fun a h1 h2 => by rw [wI_n h1, wI_n h2]
  have f : ∀ k, k ≠ 8 → (wI (wI d (z + 246) g w) (z + 242) 8 (nI (g + 1))).1 (z + 242) k = d.1 (z + 242) k := fun k hk => by rw [wI_s, va_up_n hk, wI_n (by omega)]
  have f8 : (wI (wI d (z + 246) g w) (z + 242) 8 (nI (g + 1))).1 (z + 242) 8 = nI (g + 1) := by rw [wI_s, va_up_s]
  refine rn_some ⟨hM.tr ((MFR.wI (i := 246) (by decide) (by decide)).tr (MFR.wI (i := 242) (by decide) (by decide))), ⟨?_, ?_, ?_, ⟨g + 1, by omega, f8⟩, ?_⟩, f8⟩
  · rw [o _ (by omega) (by omega)]
    exact r1
  · rw [o _ (by omega) (by omega)]
    exact r2
  · rw [f 2 (by decide)]
    exact r3
  · rw [f 10 (by decide), o _ (by omega) (by omega)]
    exact r5
section RTX
variable {k : Nat → Int32 → Int32 → Dt → Option (Int32 × Dt)} {Q : Int32 × Dt → Prop} {l1 l2 l4 : Int32}
theorem m_x195 (h : TXR d0 z R K u g d) (hg : g ≤ 8000) (kk : ∀ l1 d g, g ≤ 8000 → TXR d0 z R K u g d → Rn (k (z + 242) l1 (nI (i + 1)) d) Q) : Rn (f_X12_text_195 N sh k (z + 242) l1 (nI i) d) Q := by
  unfold f_X12_text_195
  rw [nI_1]
  exact kk l1 d g hg h
theorem m_x169 (hK : KS sh z) (h : TXR d0 z R K u g d) (hg : g + 1 + exL l4 ≤ 8000) (kk : ∀ l1 d g, g ≤ 8000 → TXR d0 z R K u g d → Rn (k (z + 242) l1 (nI (i + 1)) d) Q) : Rn (f_X12_text_169 N sh k (z + 242) l1 (nI i) l3 l4 d) Q := by
  unfold f_X12_text_169
  refine rn_eq rm10 ?_
  refine rn_bind (m_writes_ hK h (by omega)) (fun d2 h2 => ?_)
  refine rn_ite (fun _ => m_x195 h2 (by omega) kk) (fun q => ?_)
  unfold exL at hg
  rw [if_neg q] at hg
  exact rn_bind (m_writes_ hK h2 (by omega)) (fun d3 h3 => m_x195 h3 (by omega) kk)
theorem m_x149 (hK : KS sh z) (h : TXR d0 z R K u g d) (hD : D ≤ 3) (hD1 : 1 ≤ D) (hg : g + min D 2 + exL l4 ≤ 8000) (kk : ∀ l1 d g, g ≤ 8000 → TXR d0 z R K u g d → Rn (k (z + 242) l1 (nI (i + 1)) d) Q) : Rn (f_X12_text_149 N sh k (z + 242) l1 (nI i) l3 l4 (nI D) d) Q := by
  unfold f_X12_text_149
  refine rn_ite (fun q => ?_) (fun q => ?_)
  · exact m_x169 hK h (by omega) kk
  · have : ¬ D ≤ 1 := fun r => q (nI_le (b := 1) r (by decide))
    refine rn_eq dv10 ?_
    refine rn_eq rm10 ?_
    exact rn_bind (m_writes_ hK h (by omega)) (fun d2 h2 => m_x169 hK h2 (by omega) kk)
theorem m_x129 {v : Int32} (hK : KS sh z) (h : TXR d0 z R K u g d) (hD : D ≤ 3) (hD1 : 1 ≤ D) (hg : g + 1 + D + exL l4 ≤ 8000) (kk : ∀ l1 d g, g ≤ 8000 → TXR d0 z R K u g d → Rn (k (z + 242) l1 (nI (i + 1)) d) Q) : Rn (f_X12_text_129 N sh k (z + 242) l1 (nI i) l3 l4 (nI D) (z + 242) v d) Q := by
  unfold f_X12_text_129
  refine rn_bind (m_writes_ hK h (by omega)) (fun d2 h2 => ?_)
  refine rn_ite (fun q => ?_) (fun q => ?_)
  · exact m_x149 hK h2 hD hD1 (by omega) kk
  · have : ¬ D ≤ 2 := fun r => q (nI_le (b := 2) r (by decide))
    refine rn_eq dv100 ?_
    exact rn_bind (m_writes_ hK h2 (by omega)) (fun d3 h3 => m_x149 hK h3 hD hD1 (by omega) kk)
theorem m_x64 (hK : KS sh z) (hR : WF R) (hi : i < nn R 4) (h : TXR d0 z R K u g d) (hg : g ≤ 8000) (hD : D ≤ 3) (hD1 : 1 ≤ D) (kk : ∀ l1 d g, g ≤ 8000 → TXR d0 z R K u g d → Rn (k (z + 242) l1 (nI (i + 1)) d) Q) : Rn (f_X12_text_64 N sh k (z + 242) (nI i) l3 l4 (nI D) d) Q := by
  have n4 := hR.1.2.2.2.2
  unfold f_X12_text_64
  refine r_gI hK (i := 242) (c := 12) rfl ?_
  rw [h.2.2, nI_1, show nI (g + 1) + nI D = nI (g + 1 + D) from nI_add _ _]
  have go : ∀ e, e = exL l4 → Rn (f_X12_text_86 N sh k (z + 242) (nI i) l3 l4 (nI D) (nI (g + 1 + D)) (nI e) d) Q := fun e he => by
    unfold f_X12_text_86 f_X12_text_98
    rw [nI_add]
    have he1 : e ≤ 1 := by rw [he]; unfold exL; by_cases q : l4 = -1 <;> simp [q]
    refine rn_ite (fun q => ?_) (fun q => ?_)
    · refine rn_t rfl ?_
      exact m_x195 h hg kk
    · have q : g + 1 + D + e ≤ 8000 := Nat.le_of_not_lt (fun r => q (nI_lt (a := 8000) r (by omega)))
      refine rn_f (by decide) ?_
      refine rdd hK h.2.1.1 (by omega) 2 (by decide) rfl ?_
      exact rn_ite (fun _ => m_x129 hK h hD hD1 (by omega) kk) (fun _ => m_x129 hK h hD hD1 (by omega) kk)
  refine rn_ite (fun q => ?_) (fun q => ?_)
  · exact go 0 (by unfold exL; rw [if_pos q])
  · exact go 1 (by unfold exL; rw [if_neg q])
end RTX
theorem m_end_loop {x : Int32} (hK : KS sh z) (hA : AG (d.1 (z + 243)) R) (hR : WF R) : ∀ (m i fu : Nat) (l2 : Int32), i + m = nn R 3 → m < fu → Rn (f_X12_endOf_4 N sh d fu (z + 242) x l2 (nI i)) (fun _ => True)
  | 0, i, fu, l2, hc, hf => by
    obtain ⟨fu, rfl⟩ : ∃ q, fu = q + 1 := ⟨fu - 1, by omega⟩
    have n3 := hR.1.2.2.2.1
    show Rn (g_X12_endOf_4 N sh (f_X12_endOf_4 N sh d fu) (z + 242) x l2 (nI i) d) _
    unfold g_X12_endOf_4 f_X12_endOf_86
    refine rdg hK hA 3 rfl (by decide) ?_
    rw [n3.1]
    exact rn_t (nI_le (by omega) (by omega)) (rn_some trivial)
  | m + 1, i, fu, l2, hc, hf => by
    obtain ⟨fu, rfl⟩ : ∃ q, fu = q + 1 := ⟨fu - 1, by omega⟩
    have n3 := hR.1.2.2.2.1
    have hi12 : i < 12 := by omega
    show Rn (g_X12_endOf_4 N sh (f_X12_endOf_4 N sh d fu) (z + 242) x l2 (nI i) d) _
    have nx : ∀ v, Rn (f_X12_endOf_79 N sh (f_X12_endOf_4 N sh d fu) (z + 242) x (nI i) v d) (fun _ => True) := fun v => by
      unfold f_X12_endOf_79
      rw [nI_1]
      exact m_end_loop hK hA hR m (i + 1) fu v (by omega) (by omega)
    unfold g_X12_endOf_4 f_X12_endOf_78
    refine rdg hK hA 3 rfl (by decide) ?_
    rw [n3.1]
    refine rn_f (nI_ge (by omega) (by omega)) ?_
    refine rn_eq (m_pl hK) ?_
    refine rdp hK hi12 5 (by decide) rfl (fun _ => ?_)
    refine rn_ite (fun _ => nx _) (fun _ => ?_)
    refine rdp hK hi12 7 (by decide) rfl (fun _ => ?_)
    refine rn_ite (fun _ => nx _) (fun _ => ?_)
    refine rdp hK hi12 6 (by decide) rfl (fun _ => ?_)
    refine rdp hK hi12 7 (by decide) rfl (fun _ => ?_)
    exact rn_ite (fun _ => nx _) (fun _ => nx _)
theorem mtx_loop (hNf : 300 ≤ N) (hK : KS sh z) (hR : WF R) : ∀ (m i fu g : Nat) (l1 : Int32) (d : Dt), i + m = nn R 4 → m < fu → TXR d0 z R K u g d → g ≤ 8000 → Rn (f_X12_text_9 N sh fu (z + 242) l1 (nI i) d) (RR z R K u d0)
  | m, i, fu, g, l1, d, hc, hf, h, hg => by
    obtain ⟨fu, rfl⟩ : ∃ q, fu = q + 1 := ⟨fu - 1, by omega⟩
    have n4 := hR.1.2.2.2.2
    have n3 := hR.1.2.2.2.1
    have fin : Rn (f_X12_text_201 N sh (z + 242) d) (RR z R K u d0) := by
      unfold f_X12_text_201
      refine r_gI hK (i := 242) (c := 12) rfl ?_
      exact rr_says hK h.2.1 h.1
    show Rn (g_X12_text_9 N sh (f_X12_text_9 N sh fu) (z + 242) l1 (nI i) d) _
    unfold g_X12_text_9
    refine rdg hK h.2.1.1 4 rfl (by decide) ?_
    rw [n4.1]
    cases m with
    | zero => exact rn_t (nI_le (by omega) (by omega)) fin
    | succ m =>
      have hi : i < nn R 4 := by omega
      refine rn_f (nI_ge (by omega) (by omega)) ?_
      refine rn_ite (fun _ => fin) (fun _ => ?_)
      refine rdd0 hK h.2.1.1 (by omega) ?_
      refine rn_bind (P := fun _ => True) ?_ (fun v _ => ?_)
      · unfold f_X12_endOf
        refine rn_t (ks_o hK 242 12 rfl) ?_
        exact m_end_loop hK h.2.1.1 hR (nn R 3) 0 N _ (by omega) (by omega)
      · have kk : ∀ l1 d g, g ≤ 8000 → TXR d0 z R K u g d → Rn (f_X12_text_9 N sh fu (z + 242) l1 (nI (i + 1)) d) (RR z R K u d0) := fun l1 d g b1 b2 => mtx_loop hNf hK hR m (i + 1) fu g l1 d (by omega) (by omega) b2 b1
        refine rn_ite (fun _ => ?_) (fun _ => m_x64 (D := 3) hK hR hi h hg (by omega) (by omega) kk)
        exact rn_ite (fun _ => m_x64 (D := 1) hK hR hi h hg (by omega) (by omega) kk) (fun _ => m_x64 (D := 2) hK hR hi h hg (by omega) (by omega) kk)
theorem m_text (hNf : 2100 ≤ N) (hK : KS sh z) (h : RI d z R K u) (hR : WF R) : Rn (f_X12_text N sh (z + 242) d) (RR z R K u d) := by
  have n4 := hR.1.2.2.2.2
  obtain ⟨r1, r2, r3, r4, r5⟩ := h
  unfold f_X12_text
  refine rn_t (ks_o hK 242 12 rfl) ?_
  refine r_pI hK (i := 242) (c := 12) rfl ?_
  have o : ∀ a, a ≠ z + 242 → (wI d (z + 242) 8 0).1 a = d.1 a := fun a h1 => wI_n h1
  have f : ∀ k, k ≠ 8 → (wI d (z + 242) 8 0).1 (z + 242) k = d.1 (z + 242) k := fun k hk => by rw [wI_s, va_up_n hk]
  have f8 : (wI d (z + 242) 8 0).1 (z + 242) 8 = nI 0 := by rw [wI_s, va_up_s]; rfl
  refine mtx_loop (by omega) hK hR (nn R 4) 0 N 0 1 _ (by omega) (by omega) ⟨MFR.wI (i := 242) (by decide) (by decide), ⟨?_, ?_, ?_, ⟨0, by omega, f8⟩, ?_⟩, f8⟩ (by omega)
  · rw [o _ (by omega)]
    exact r1
  · rw [o _ (by omega)]
    exact r2
  · rw [f 2 (by decide)]
    exact r3
  · rw [f 10 (by decide), o _ (by omega)]
    exact r5
end TXT
/-! 9u.pairs.lean.txt -/
/-! ODD CROSSINGS are even in number and joined; the reference's pairs, whole -/
section PPU
variable {sh : Sh} {d d0 d' : Dt} {z : Nat} {R : Nat → Int32} {N a b u v n m k i c p q x S : Nat} {T T' : Nat → Nat} {f g : Nat → Nat}
theorem adj_edge (hW : WS R) (hN : WN R) (hB : BW R) (hO : OPT R T) (h : adj R T u v) : ∃ s, edge R s u v := by
  obtain ⟨s, h1, h2, h3⟩ := h
  have o := hO s h1 h2
  have b := hB s h1 o
  obtain ⟨e7, -, e8, -, -⟩ := ws_e hW hN h1
  rcases h3 with ⟨q1, q2⟩ | ⟨q1, q2⟩
  · exact ⟨s, h1, o, Or.inl ⟨by rw [e7, q1], by rw [e8, q2]⟩⟩
  · exact ⟨s, h1, o, Or.inr ⟨b, by rw [e8, q2], by rw [e7, q1]⟩⟩
theorem rchN_wk (hW : WS R) (hN : WN R) (hB : BW R) (hO : OPT R T) : ∀ (k u v : Nat), rchN R T k u v → ∃ p, wk R p u v
  | 0, u, v, h => ⟨[], h⟩
  | k + 1, u, v, h => by
    obtain ⟨w, h1, h2⟩ := h
    obtain ⟨p, hp⟩ := rchN_wk hW hN hB hO k w v h2
    obtain ⟨s, hs⟩ := adj_edge hW hN hB hO h1
    exact ⟨s :: p, w, (adj_lt hW hN h1).2, hs, hp⟩
theorem wk_dst {p : List Nat} (h : wk R p u v) : ∃ n, dst R u v n := by
  obtain ⟨m, h1, h2⟩ := least_ex (P := fun n => ∃ p, wk R p u v ∧ wln R p = n) (wln R p) (wln R p) (Nat.le_refl _) ⟨p, h, rfl⟩
  exact ⟨m, h1, fun p' hp' => h2 _ ⟨p', hp', rfl⟩⟩
theorem rch_dst (hW : WS R) (hN : WN R) (hB : BW R) (hO : OPT R T) (h : rch R T u v) : ∃ n, dst R u v n := by
  obtain ⟨k, hk⟩ := h
  obtain ⟨p, hp⟩ := rchN_wk hW hN hB hO k u v hk
  exact wk_dst hp
theorem rk_le (hW : WS R) : ∀ (k u n : Nat), rk R b k u → dst R u b n → n ≤ 10000 * k
  | 0, u, n, h, hd => by
    have h : u = b := h
    subst h
    have := dst_fun hd dst_b
    omega
  | k + 1, u, n, h, hd => by
    rcases h with h | ⟨-, h1, h2⟩
    · subst h
      have := dst_fun hd dst_b
      omega
    · obtain ⟨⟨c1, c2, n1, m1, e1, e2, e3⟩, -⟩ := h1
      have e := dst_fun hd e1
      have ih := rk_le hW k _ m1 h2 e2
      have := (edge_sln hW c2).2
      omega
theorem dst_le6 (hW : WS R) (hN : WN R) (h : dst R u b n) : n ≤ 600000 := rk_le hW 60 u n (rk_60 hW hN h) h
theorem rch_sy (h : rch R T u v) : rch R T v u := rch_cl (P := fun x => rch R T x u) (fun a b ha hu => rch_tr (rch_step rch_rf (adj_sy ha)) hu) h rch_rf
theorem dg_pos : ∀ k, 0 < dgT R T c k → ∃ s, s < k ∧ (eA R s = c ∨ eB R s = c) ∧ 0 < T s
  | 0, h => absurd h (Nat.lt_irrefl 0)
  | k + 1, h => by
    have h : 0 < dgT R T c k + if eA R k = c ∨ eB R k = c then T k else 0 := h
    by_cases h1 : 0 < dgT R T c k
    · obtain ⟨s, q1, q2⟩ := dg_pos k h1
      exact ⟨s, by omega, q2⟩
    · by_cases h2 : eA R k = c ∨ eB R k = c
      · rw [if_pos h2] at h
        exact ⟨k, by omega, h2, by omega⟩
      · rw [if_neg h2] at h
        omega
theorem oddl_P (hW : WS R) (hN : WN R) : oddl R = oddP R (T0 R) (nn R 0) := by
  have n0 := hN.1.2
  unfold oddl oddP
  refine List.filter_congr (fun c hc => ?_)
  have hc := List.mem_range.mp hc
  rw [dg_T0 hW hN (by omega) _ (Nat.le_refl _)]
theorem inO_rch (hW : WS R) (hN : WN R) (hp : ∀ s, T s % 2 = T0 R s % 2) (hC : conn R T 0) (hx : inO R x) : rch R T 0 x := by
  obtain ⟨i, hi, rfl⟩ := hx
  have hm : oC R i ∈ oddl R := by
    unfold oC
    rw [List.getD_eq_getElem?_getD, List.getElem?_eq_getElem hi]
    exact List.getElem_mem hi
  rw [oddl_P hW hN, ← oddP_par hp] at hm
  have hodd := (List.mem_filter.mp hm).2
  have hodd : dgT R T (oC R i) (nn R 1) % 2 = 1 := of_decide_eq_true hodd
  obtain ⟨s, q1, q2, q3⟩ := dg_pos (nn R 1) (show 0 < dgT R T (oC R i) (nn R 1) by omega)
  have r := hC s q1 q3
  rcases q2 with e | e
  · rw [← e]
    exact r
  · rw [← e]
    exact rch_step r ⟨s, q1, q3, Or.inl ⟨rfl, rfl⟩⟩
theorem gf_of (hW : WS R) (hN : WN R) (hB : BW R) (hO : OPT R T) (hp : ∀ s, T s % 2 = T0 R s % 2) (hC : conn R T 0) : GF R := fun i j hi hj => by
  have r1 := inO_rch hW hN hp hC ⟨i, hi, rfl⟩
  have r2 := inO_rch hW hN hp hC ⟨j, hj, rfl⟩
  obtain ⟨n, hd⟩ := rch_dst hW hN hB hO (rch_tr (rch_sy r1) r2)
  show dd R (oC R i) (oC R j) ≤ 600000
  rw [dd_eq hd]
  exact dst_le6 hW hN hd
theorem inO_dst (hW : WS R) (hN : WN R) (hB : BW R) (hO : OPT R T) (hp : ∀ s, T s % 2 = T0 R s % 2) (hC : conn R T 0) (hx : inO R u) (hy : inO R v) : ∃ n, dst R u v n :=
  rch_dst hW hN hB hO (rch_tr (rch_sy (inO_rch hW hN hp hC hx)) (inO_rch hW hN hp hC hy))
/-! the handshake -/
theorem smN_add : ∀ n, smN (fun c => f c + g c) n = smN f n + smN g n
  | 0 => rfl
  | n + 1 => by
    show smN (fun c => f c + g c) n + (f n + g n) = smN f n + f n + (smN g n + g n)
    rw [smN_add n]
    omega
theorem smN_two {t : Nat} (h : a ≠ b) : ∀ n, smN (fun c => if a = c ∨ b = c then t else 0) n = (if a < n then t else 0) + if b < n then t else 0
  | 0 => by
    rw [if_neg (Nat.not_lt_zero a), if_neg (Nat.not_lt_zero b)]
    rfl
  | n + 1 => by
    show smN (fun c => if a = c ∨ b = c then t else 0) n + (if a = n ∨ b = n then t else 0) = _
    rw [smN_two h n]
    split <;> split <;> split <;> split <;> split <;> omega
theorem smN_0f : ∀ n, smN (fun _ => 0) n = 0
  | 0 => rfl
  | n + 1 => smN_0f n
theorem dg_sum (hW : WS R) (hN : WN R) : ∀ k, k ≤ nn R 1 → smN (fun c => dgT R T c k) (nn R 0) % 2 = 0
  | 0, _ => by
    show smN (fun _ => 0) (nn R 0) % 2 = 0
    rw [smN_0f]
  | k + 1, hk => by
    have ih := dg_sum hW hN k (by omega)
    obtain ⟨-, a2, -, b2, hne⟩ := ws_e hW hN (s := k) (by omega)
    show smN (fun c => dgT R T c k + if eA R k = c ∨ eB R k = c then T k else 0) (nn R 0) % 2 = 0
    rw [smN_add (f := fun c => dgT R T c k) (g := fun c => if eA R k = c ∨ eB R k = c then T k else 0), smN_two hne, if_pos a2, if_pos b2]
    omega
theorem odd_par : ∀ i, (oddP R T i).length % 2 = smN (fun c => dgT R T c (nn R 1)) i % 2
  | 0 => rfl
  | i + 1 => by
    have ih := odd_par i
    rw [oddP_s, List.length_append]
    show _ = (smN (fun c => dgT R T c (nn R 1)) i + dgT R T i (nn R 1)) % 2
    by_cases h : dgT R T i (nn R 1) % 2 = 1
    · rw [if_pos h]
      show ((oddP R T i).length + 1) % 2 = _
      omega
    · rw [if_neg h]
      show ((oddP R T i).length + 0) % 2 = _
      omega
theorem oddl_even (hW : WS R) (hN : WN R) : (oddl R).length % 2 = 0 := by
  rw [oddl_P hW hN, odd_par]
  exact dg_sum hW hN _ (Nat.le_refl _)
theorem pc_full : ∀ k, k ≤ m → pcN (2 ^ m - 1) k = k
  | 0, _ => rfl
  | k + 1, hk => by
    show pcN (2 ^ m - 1) k + (if (2 ^ m - 1).testBit k = true then 1 else 0) = k + 1
    rw [pc_full k (by omega), Nat.testBit_two_pow_sub_one, if_pos (by rw [decide_eq_true_iff]; omega)]
/-! all pairs -/
noncomputable def pairsL (R : Nat → Int32) : List (Nat × Nat) := if (oddl R).length ≤ 14 then prX R 7 (2 ^ (oddl R).length - 1) else (List.range ((oddl R).length / 2)).map (exN R ((oddl R).length / 2) 1000 (P0 R))
def PRo (d : Dt) (z : Nat) (R : Nat → Int32) : Prop := d.1 (z + 242) 21 = nI (pairsL R).length ∧ PA d (z + 255) (z + 256) (pairsL R)
theorem sub_full (hS : S < 2 ^ m) : subS S (2 ^ m - 1) := fun j hj => by
  rw [Nat.testBit_two_pow_sub_one, decide_eq_true_iff]
  rcases Nat.lt_or_ge j m with h | h
  · exact h
  · rw [Nat.testBit_lt_two_pow (Nat.lt_of_lt_of_le hS (Nat.pow_le_pow_right (by decide) h))] at hj
    exact absurd hj (by decide)
theorem m_pairsLeast (hN1 : 20000 ≤ N) (hK : KS sh z) (hN : WN R) (hW : WS R) (hR : RCx d z R) (hO : ODr d z R) (hm : (oddl R).length ≤ 14) (hG : GF R) (h21 : d.1 (z + 242) 21 = 0) : Rn (f_X12_pairsLeast N sh (z + 242) d) (fun d' => QF z d d' ∧ PRo d' z R) := by
  have hb : 2 ^ (oddl R).length ≤ 2 ^ 14 := Nat.pow_le_pow_right (by decide) hm
  have hp := Nat.two_pow_pos (oddl R).length
  unfold f_X12_pairsLeast
  refine rn_t (ks_o hK 242 12 rfl) ?_
  refine r_gI hK (i := 242) (c := 12) rfl ?_
  have e1 : ((1 : Int32) <<< (d.1 (z + 242) 16 &&& 31)) - 1 = nI (2 ^ (oddl R).length - 1) := by
    rw [hO.1, sb_pow (by omega), show nI (2 ^ (oddl R).length) = nI ((2 ^ (oddl R).length - 1) + 1) from congrArg nI (by omega), nI_pred]
  rw [e1]
  refine rn_bind (m_findLeast hN1 hK hN hW hR hO hm (by omega)) (fun d1 h1 => ?_)
  obtain ⟨k1, k2⟩ := h1
  refine rn_mono (pl_loop hN1 hK hN hW (k1.rc hR) (k1.od hO) hm hG 7 N (2 ^ (oddl R).length - 1) d1 [] (by omega) (by omega) ?_ ?_ (by decide) QF.rf (fun S' hS' => ?_) ?_ (fun k hk => absurd hk (Nat.not_lt_zero k))) (fun d2 h2 => ?_)
  · rw [pc_full _ (Nat.le_refl _)]
    exact oddl_even hW hN
  · rw [pc_full _ (Nat.le_refl _)]
    exact hm
  · exact k2 S' (by omega) (sub_full (by omega))
  · rw [k1.2 (z + 242) (by omega)]
    exact h21
  · obtain ⟨q1, q2, q3, q4⟩ := h2
    have e : pairsL R = [] ++ prX R 7 (2 ^ (oddl R).length - 1) := if_pos hm
    refine ⟨k1.qf.tr q1, ?_, ?_⟩
    · rw [e]
      exact q2
    · rw [e]
      exact q3
theorem m_pairsInOrder (hN1 : 2000 ≤ N) (hK : KS sh z) (hN : WN R) (hW : WS R) (hR : RCx d z R) (hO : ODr d z R) (hm : ¬ (oddl R).length ≤ 14) (hG : GF R) (h20 : d.1 (z + 242) 20 = 0) (h21 : d.1 (z + 242) 21 = 0) : Rn (f_X12_pairsInOrder N sh (z + 242) d) (fun d' => QF z d d' ∧ PRo d' z R) := by
  have hl := oddl_len hW hN
  have he := oddl_even hW hN
  have e : pairsL R = (List.range ((oddl R).length / 2)).map (exN R ((oddl R).length / 2) 1000 (P0 R)) := if_neg hm
  have el : (pairsL R).length = (oddl R).length / 2 := by rw [e, List.length_map, List.length_range]
  unfold f_X12_pairsInOrder
  refine rn_t (ks_o hK 242 12 rfl) ?_
  refine rn_mono (io_loop (n := (oddl R).length / 2) hN1 hK hN hW hG hR hO (by omega) (by omega) ((oddl R).length / 2) 0 N d (by omega) (by omega) QF.rf h20 ⟨h21, fun k hk => absurd hk (Nat.not_lt_zero k)⟩) (fun d2 h2 => ?_)
  obtain ⟨q1, q2, q3⟩ := h2
  refine ⟨q1, by rw [el]; exact q2, fun k hk => ?_⟩
  have hk2 : k < (oddl R).length / 2 := by rw [← el]; exact hk
  have eg : (pairsL R).getD k (0, 0) = exN R ((oddl R).length / 2) 1000 (P0 R) k := by
    rw [e, List.getD_eq_getElem?_getD, List.getElem?_map, List.getElem?_range hk2]
    rfl
  rw [eg]
  exact q3 k hk2
end PPU
