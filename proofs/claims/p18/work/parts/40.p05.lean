/-! 76.joinr.lean.txt -/
def TV2 (z : Nat) (R : Nat → Int32) (d : Dt) (T : Nat → Nat) : Prop := ∀ s, s < nn R 1 → d.1 (z + 251) s = nI (T s)
def RCx (d : Dt) (z : Nat) (R : Nat → Int32) : Prop := AG (d.1 (z + 243)) R ∧ ∀ a b, a < nn R 0 → b < nn R 0 → dOK R 268435456 a b (d.1 (z + 247) (60 * a + b))
/-- the best of those that were seen -/
def JB (R : Nat → Int32) (T : Nat → Nat) (far : Nat) (seen : Nat → Nat → Prop) (l1 l2 l3 : Int32) : Prop := (l3 = nI far ∧ ∀ x y n, seen x y → ¬ cand R T x y n) ∨ ∃ p q n, l1 = nI p ∧ l2 = nI q ∧ l3 = nI n ∧ n < 2 ^ 28 ∧ seen p q ∧ cand R T p q n ∧ ∀ x y n', seen x y → cand R T x y n' → n < n' ∨ (n = n' ∧ (p < x ∨ (p = x ∧ q ≤ y)))
section JR
variable {β : Type} {Q : Int32 × Dt → Prop} {sh : Sh} {d d0 d' : Dt} {z : Nat} {R K : Nat → Int32} {N b : Nat} {T : Nat → Nat}
theorem JB.cg {far : Nat} {seen seen' : Nat → Nat → Prop} {l1 l2 l3 : Int32} (h : JB R T far seen l1 l2 l3) (hs : ∀ x y n, cand R T x y n → (seen x y ↔ seen' x y)) : JB R T far seen' l1 l2 l3 := by
  rcases h with ⟨h1, h2⟩ | ⟨p, q, n, h1, h2, h3, h4, h5, h6, h7⟩
  · exact Or.inl ⟨h1, fun x y n hx hc => h2 x y n ((hs x y n hc).mpr hx) hc⟩
  · exact Or.inr ⟨p, q, n, h1, h2, h3, h4, (hs p q n h6).mp h5, h6, fun x y n' hx hc => h7 x y n' ((hs x y n' hc).mpr hx) hc⟩
theorem JB.take {far x0 y0 n0 : Nat} {seen : Nat → Nat → Prop} {l1 l2 l3 : Int32} (h : JB R T far seen l1 l2 l3) (hc : cand R T x0 y0 n0) (hn : n0 < 2 ^ 28) (hb : ∀ p q n, l1 = nI p → l3 = nI n → seen p q → cand R T p q n → n < 2 ^ 28 → n0 < n ∨ (n0 = n ∧ x0 < p)) : JB R T far (fun x y => seen x y ∨ (x = x0 ∧ y = y0)) (nI x0) (nI y0) (nI n0) := by
  refine Or.inr ⟨x0, y0, n0, rfl, rfl, rfl, hn, Or.inr ⟨rfl, rfl⟩, hc, fun x y n' hx hc' => ?_⟩
  rcases hx with hx | ⟨rfl, rfl⟩
  · rcases h with ⟨h1, h2⟩ | ⟨p, q, n, h1, h2, h3, h4, h5, h6, h7⟩
    · exact absurd hc' (h2 x y n' hx)
    · have r1 := hb p q n h1 h3 h5 h6 h4
      have r2 := h7 x y n' hx hc'
      omega
  · have := dst_fun hc.2.2.2.2 hc'.2.2.2.2
    omega
theorem JB.skip {far x0 y0 : Nat} {seen : Nat → Nat → Prop} {l1 l2 l3 : Int32} (h : JB R T far seen l1 l2 l3) (hb : ∀ n0, cand R T x0 y0 n0 → ∃ p q n, l1 = nI p ∧ l2 = nI q ∧ l3 = nI n ∧ n < 2 ^ 28 ∧ seen p q ∧ cand R T p q n ∧ (∀ x y n', seen x y → cand R T x y n' → n < n' ∨ (n = n' ∧ (p < x ∨ (p = x ∧ q ≤ y)))) ∧ (n < n0 ∨ (n = n0 ∧ (p < x0 ∨ (p = x0 ∧ q ≤ y0))))) : JB R T far (fun x y => seen x y ∨ (x = x0 ∧ y = y0)) l1 l2 l3 := by
  by_cases hq : ∃ n0, cand R T x0 y0 n0
  · obtain ⟨n0, hn0⟩ := hq
    obtain ⟨p, q, n, a1, a2, a3, a4, a5, a6, a7, a8⟩ := hb n0 hn0
    refine Or.inr ⟨p, q, n, a1, a2, a3, a4, Or.inl a5, a6, fun x y n' hx hc => ?_⟩
    rcases hx with hx | ⟨rfl, rfl⟩
    · exact a7 x y n' hx hc
    · rw [dst_fun hc.2.2.2.2 hn0.2.2.2.2]
      exact a8
  · rcases h with ⟨h1, h2⟩ | ⟨p, q, n, h1, h2, h3, h4, h5, h6, h7⟩
    · exact Or.inl ⟨h1, fun x y n hx hc => hx.elim (fun r => h2 x y n r hc) (fun r => hq ⟨n, by rw [← r.1, ← r.2]; exact hc⟩)⟩
    · exact Or.inr ⟨p, q, n, h1, h2, h3, h4, Or.inl h5, h6, fun x y n' hx hc => hx.elim (fun r => h7 x y n' r hc) (fun r => absurd ⟨n', by rw [← r.1, ← r.2]; exact hc⟩ hq)⟩
/-- TIMES alone are touched -/
def TF (z : Nat) (d d' : Dt) : Prop := d'.2 = d.2 ∧ ∀ a, a ≠ z + 251 → d'.1 a = d.1 a
theorem TF.rf : TF z d d := ⟨rfl, fun _ _ => rfl⟩
theorem TF.w {k : Nat} {v : Int32} (h : TF z d d') : TF z d (wI d' (z + 251) k v) := ⟨h.1, fun a q => (wI_n q).trans (h.2 a q)⟩
theorem TF.rc (h : TF z d d') (hR : RCx d z R) : RCx d' z R := by
  unfold RCx
  rw [h.2 (z + 243) (by omega), h.2 (z + 247) (by omega)]
  exact hR
theorem adds_loop {n9 : Nat} {Q : Dt → Prop} (hN1 : 151 ≤ N) (hK : KS sh z) (hN : WN R) (hW : WS R) (hR : RCx d0 z R) (hb : b < nn R 0) (hQ : ∀ (d' : Dt) (T' : Nat → Nat), TF z d0 d' → TV2 z R d' T' → T' = T → Q d') : ∀ (k a fu : Nat) (d : Dt) (T0 : Nat → Nat), rk R b k a → a < nn R 0 → k < fu → TF z d0 d → TV2 z R d T0 → addL n9 T0 (wayL R b k a) = T → Rn (f_X12_adds_3 N sh fu (z + 242) (nI b) (nI n9) (nI a) d) Q
  | k, a, 0, d, T0, hk, ha, hf, hM, hT, hE => absurd hf (Nat.not_lt_zero k)
  | 0, a, fu + 1, d, T0, hk, ha, hf, hM, hT, hE => by
    show Rn (g_X12_adds_3 N sh (f_X12_adds_3 N sh fu) (z + 242) (nI b) (nI n9) (nI a) d) _
    unfold g_X12_adds_3
    have hk : a = b := hk
    refine rn_t (by rw [hk]) ?_
    exact rn_some (hQ d T0 hM hT hE)
  | k + 1, a, fu + 1, d, T0, hk, ha, hf, hM, hT, hE => by
    have n0 := hN.1.2
    have n1 := hN.2.1.2
    show Rn (g_X12_adds_3 N sh (f_X12_adds_3 N sh fu) (z + 242) (nI b) (nI n9) (nI a) d) _
    unfold g_X12_adds_3
    unfold wayL at hE
    by_cases e : a = b
    · refine rn_t (by rw [e]) ?_
      rw [if_pos e] at hE
      exact rn_some (hQ d T0 hM hT hE)
    · rw [if_neg e] at hE
      refine rn_f (fun q => e (nI_inj q (by omega) (by omega))) ?_
      obtain ⟨⟨n, hd⟩, hq, hr⟩ := hk.resolve_left e
      have hs := hq.1.2.1.1
      have hRd := hM.rc hR
      have hA := ks_a hK 251 0 150 rfl
      refine rn_eq (m_onTo hN1 hK hN hW hRd.1 hRd.2 ha hb hd e) ?_
      refine r_gP hK 242 12 14 251 rfl (by decide) ?_
      refine rn_eq (q_aT hA (nxt R b a).1 rfl (by omega) (by decide)) ?_
      rw [hT _ hs, nI_add]
      refine rn_eq (q_sI hA (nxt R b a).1 rfl (by omega) (by decide)) ?_
      have hM1 : TF z d0 (wI d (z + 251) (nxt R b a).1 (nI (T0 (nxt R b a).1 + n9))) := hM.w
      refine rn_eq (m_leads hK (hM1.rc hR).1 (by omega)) ?_
      rw [nxt_leads hW hN ha hq]
      refine adds_loop hN1 hK hN hW hR hb hQ k _ fu _ (va_up T0 (nxt R b a).1 (T0 (nxt R b a).1 + n9)) hr hq.1.1 (by omega) hM1 (fun s hs => ?_) hE
      rw [wI_s]
      by_cases es : s = (nxt R b a).1
      · rw [es, va_up_s, va_up_s]
      · rw [va_up_n es, va_up_n es]
        exact hT s hs
theorem m_adds {a n n9 : Nat} (hNf : 2 ^ 40 ≤ N) (hK : KS sh z) (hN : WN R) (hW : WS R) (hR : RCx d z R) (ha : a < nn R 0) (hb : b < nn R 0) (hd : dst R a b n) (hT : TV2 z R d T) : Rn (f_X12_adds N sh (z + 242) (nI a) (nI b) (nI n9) d) (fun d' => TF z d d' ∧ TV2 z R d' (addL n9 T (wayL R b 60 a))) := by
  unfold f_X12_adds
  refine rn_t (ks_o hK 242 12 rfl) ?_
  exact adds_loop (d0 := d) (T := addL n9 T (wayL R b 60 a)) (by omega) hK hN hW hR hb (fun d' T' h1 h2 h3 => ⟨h1, by rw [← h3]; exact h2⟩) 60 a N d T (rk_60 hW hN hd) ha (by omega) TF.rf hT rfl
theorem jx_loop {k14 : Nat → Dt → Option (Int32 × Dt)} {k35 : Nat → Int32 → Int32 → Int32 → Int32 → Dt → Option (Int32 × Dt)} {Y : Nat} {v : Int32} (hK : KS sh z) (hN : WN R) (hR : RCx d z R) (hC : CM d z (rch R T 0)) (hY : Y < nn R 0) (hv : (v = 0 ∧ ¬ lost R T 0 Y) ∨ (v = 1 ∧ lost R T 0 Y)) (hk : ∀ l1 l2 l3, JB R T (2 ^ 28) (fun _ y => y < Y + 1) l1 l2 l3 → Rn (k35 (z + 242) l1 l2 l3 (nI (Y + 1)) d) Q) : ∀ (m i fu : Nat) (l1 l2 l3 : Int32), i + m = nn R 0 → m < fu → JB R T (2 ^ 28) (fun x y => y < Y ∨ (y = Y ∧ x < i)) l1 l2 l3 → Rn (f_X12_joinsAll_57 N sh k14 k35 fu (z + 242) l1 l2 l3 (nI Y) v (nI i) d) Q
  | 0, i, fu, l1, l2, l3, hi, hf, hJ => by
    obtain ⟨fu, rfl⟩ : ∃ q, fu = q + 1 := ⟨fu - 1, by omega⟩
    show Rn (g_X12_joinsAll_57 N sh k14 k35 (f_X12_joinsAll_57 N sh k14 k35 fu) (z + 242) l1 l2 l3 (nI Y) v (nI i) d) _
    have n0 := hN.1
    unfold g_X12_joinsAll_57 f_X12_joinsAll_143
    refine rdg hK hR.1 0 rfl (by decide) ?_
    rw [n0.1, nI_1]
    refine rn_t ((nI_leI (by omega) (by omega)).mpr (by omega)) ?_
    refine hk l1 l2 l3 (hJ.cg (fun x y n hc => ⟨fun r => by omega, fun r => ?_⟩))
    have := hc.2.1
    have r : y < Y + 1 := r
    omega
  | m + 1, i, fu, l1, l2, l3, hi, hf, hJ => by
    obtain ⟨fu, rfl⟩ : ∃ q, fu = q + 1 := ⟨fu - 1, by omega⟩
    have ih := jx_loop (k14 := k14) hK hN hR hC hY hv hk m (i + 1) fu
    show Rn (g_X12_joinsAll_57 N sh k14 k35 (f_X12_joinsAll_57 N sh k14 k35 fu) (z + 242) l1 l2 l3 (nI Y) v (nI i) d) _
    have n0 := hN.1
    have hx : i < nn R 0 := by omega
    unfold g_X12_joinsAll_57 f_X12_joinsAll_143
    refine rdg hK hR.1 0 rfl (by decide) ?_
    rw [n0.1, nI_1]
    refine rn_f (nI_ge hx (by omega)) ?_
    rcases hv with hv | hv
    · refine rn_t hv.1 ?_
      refine hk l1 l2 l3 (hJ.cg (fun x y n hc => ⟨fun r => by omega, fun r => ?_⟩))
      have r : y < Y + 1 := r
      by_cases e : y = Y
      · rw [e] at hc
        exact absurd hc.2.2.1 hv.2
      · exact Or.inl (by omega)
    · refine rn_f (by rw [hv.1]; decide) ?_
      refine r_gP hK 242 12 17 253 rfl (by decide) ?_
      refine rn_eq (q_aT (ks_a hK 253 4 60 rfl) i rfl (by omega) (by decide)) ?_
      have cg : ∀ l1 l2 l3, JB R T (2 ^ 28) (fun x y => (y < Y ∨ (y = Y ∧ x < i)) ∨ (x = i ∧ y = Y)) l1 l2 l3 → JB R T (2 ^ 28) (fun x y => y < Y ∨ (y = Y ∧ x < i + 1)) l1 l2 l3 := fun l1 l2 l3 h => h.cg (fun x y n _ => ⟨fun r => by omega, fun r => by omega⟩)
      have nxt9 : ∀ l1 l2 l3, JB R T (2 ^ 28) (fun x y => (y < Y ∨ (y = Y ∧ x < i)) ∨ (x = i ∧ y = Y)) l1 l2 l3 → Rn (f_X12_joinsAll_57 N sh k14 k35 fu (z + 242) l1 l2 l3 (nI Y) v (nI (i + 1)) d) Q := fun l1 l2 l3 h => ih l1 l2 l3 (by omega) (by omega) (cg l1 l2 l3 h)
      rcases hC i (by omega) with ⟨q1, q2⟩ | ⟨q1, q2⟩
      · refine rn_f (by rw [q1]; decide) ?_
        refine r_gP hK 242 12 9 247 rfl (by decide) ?_
        refine rn_eq (q_aT (ks_a hK 247 0 3600 rfl) (60 * i + Y) (ix_far i Y) (by omega) (by decide)) ?_
        unfold f_X12_joinsAll_101 f_X12_joinsAll_128 f_X12_joinsAll_137
        rw [nI_1]
        rcases hR.2 i Y hx hY with ⟨n, r1, r2, r3⟩ | ⟨r1, r3⟩
        · have hc : cand R T i Y n := ⟨q2, hx, hv.2, hY, r1⟩
          rw [r3]
          refine rn_ite (fun h1 => ?_) (fun h1 => ?_)
          · refine nxt9 _ _ _ (hJ.take hc r2 (fun p q n' e1 e2 _ _ e3 => ?_))
            rw [e2] at h1
            exact Or.inl ((nI_ltI (by omega) (by omega)).mp h1)
          · have old : ∀ n', l3 = nI n' → n' < 2 ^ 28 → n' ≤ n := fun n' e1 e2 => by
              rw [e1] at h1
              exact Nat.le_of_not_lt (fun q => h1 ((nI_ltI (by omega) (by omega)).mpr q))
            have hl3 : ∃ p q n', l1 = nI p ∧ l2 = nI q ∧ l3 = nI n' ∧ n' < 2 ^ 28 ∧ (q < Y ∨ (q = Y ∧ p < i)) ∧ cand R T p q n' ∧ (∀ x y n'', (y < Y ∨ (y = Y ∧ x < i)) → cand R T x y n'' → n' < n'' ∨ (n' = n'' ∧ (p < x ∨ (p = x ∧ q ≤ y)))) := by
              rcases hJ with ⟨j1, j2⟩ | hJ
              · rw [j1] at h1
                exact absurd (nI_lt (by omega) (by omega)) h1
              · exact hJ
            obtain ⟨p, q, n', j1, j2, j3, j4, j5, j6, j7⟩ := hl3
            have hle := old n' j3 j4
            have hp := j6.2.1
            refine rn_ite (fun h2 => ?_) (fun h2 => ?_)
            · have h2 : n ≠ n' := fun e => h2 (by rw [e, j3])
              refine nxt9 _ _ _ (hJ.skip (fun n9 hn9 => ⟨p, q, n', j1, j2, j3, j4, j5, j6, j7, ?_⟩))
              have := dst_fun hc.2.2.2.2 hn9.2.2.2.2
              omega
            · have h2 : n = n' := nI_inj ((Decidable.of_not_not h2).trans j3) (by omega) (by omega)
              refine rn_f (fun q => ?_) ?_
              · have := (nI_leI (a := 268435456) (by decide) (by omega)).mp q
                omega
              · refine rn_ite (fun h3 => ?_) (fun h3 => ?_)
                · rw [j1] at h3
                  have h3 := (nI_leI (by omega) (by omega)).mp h3
                  refine nxt9 _ _ _ (hJ.skip (fun n9 hn9 => ⟨p, q, n', j1, j2, j3, j4, j5, j6, j7, ?_⟩))
                  have := dst_fun hc.2.2.2.2 hn9.2.2.2.2
                  omega
                · refine nxt9 _ _ _ (hJ.take hc r2 (fun p9 q9 n9 e1 e2 _ c9 e3 => ?_))
                  have en : n' = n9 := nI_inj (j3.symm.trans e2) (by omega) (by omega)
                  have hp9 := c9.2.1
                  have ep : p = p9 := nI_inj (j1.symm.trans e1) (by omega) (by omega)
                  have : ¬ p ≤ i := fun q => h3 (by rw [j1]; exact (nI_leI (by omega) (by omega)).mpr q)
                  omega
        · have hno : ∀ n9, ¬ cand R T i Y n9 := fun n9 h9 => by
            obtain ⟨⟨p, hp, _⟩, _⟩ := h9.2.2.2.2
            exact r1 p hp
          rw [r3]
          have hsk := hJ.skip (x0 := i) (y0 := Y) (fun n9 hn9 => absurd hn9 (hno n9))
          refine rn_f (fun h1 => ?_) ?_
          · rcases hJ with ⟨j1, -⟩ | ⟨p, q, n', j1, j2, j3, j4, -⟩
            · rw [j1] at h1
              exact absurd h1 (by decide)
            · rw [j3] at h1
              have := (nI_ltI (a := 268435456) (by decide) (by omega)).mp h1
              omega
          · refine rn_ite (fun _ => nxt9 _ _ _ hsk) (fun _ => ?_)
            exact rn_t (by decide) (nxt9 _ _ _ hsk)
      · refine rn_t q1 ?_
        unfold f_X12_joinsAll_101 f_X12_joinsAll_128 f_X12_joinsAll_137
        rw [nI_1]
        have hsk := hJ.skip (x0 := i) (y0 := Y) (fun n9 hn9 => absurd hn9.1 q2)
        refine rn_f (fun h1 => ?_) ?_
        · rcases hJ with ⟨j1, -⟩ | ⟨p, q, n', j1, j2, j3, j4, -⟩
          · rw [j1] at h1
            exact absurd h1 (by decide)
          · rw [j3] at h1
            have := (nI_ltI (a := 268435456) (by decide) (by omega)).mp h1
            omega
        · refine rn_ite (fun _ => nxt9 _ _ _ hsk) (fun _ => ?_)
          exact rn_t (by decide) (nxt9 _ _ _ hsk)
theorem jy_loop {k14 : Nat → Dt → Option (Int32 × Dt)} (hN1 : 151 ≤ N) (hK : KS sh z) (hN : WN R) (hW : WS R) (hR : RCx d z R) (hT : TM z R d T) (hC : CM d z (rch R T 0)) (hk : ∀ l1 l2 l3, JB R T (2 ^ 28) (fun _ _ => True) l1 l2 l3 → Rn (f_X12_joinsAll_149 N sh k14 (z + 242) l1 l2 l3 d) Q) : ∀ (m i fu : Nat) (l1 l2 l3 : Int32), i + m = nn R 0 → m < fu → JB R T (2 ^ 28) (fun _ y => y < i) l1 l2 l3 → Rn (f_X12_joinsAll_35 N sh k14 fu (z + 242) l1 l2 l3 (nI i) d) Q
  | 0, i, fu, l1, l2, l3, hi, hf, hJ => by
    obtain ⟨fu, rfl⟩ : ∃ q, fu = q + 1 := ⟨fu - 1, by omega⟩
    show Rn (g_X12_joinsAll_35 N sh k14 (f_X12_joinsAll_35 N sh k14 fu) (z + 242) l1 l2 l3 (nI i) d) _
    have n0 := hN.1
    unfold g_X12_joinsAll_35
    refine rdg hK hR.1 0 rfl (by decide) ?_
    rw [n0.1]
    refine rn_t ((nI_leI (by omega) (by omega)).mpr (by omega)) ?_
    refine hk l1 l2 l3 (hJ.cg (fun x y n hc => ⟨fun _ => trivial, fun _ => ?_⟩))
    have := hc.2.2.2.1
    show y < i
    omega
  | m + 1, i, fu, l1, l2, l3, hi, hf, hJ => by
    obtain ⟨fu, rfl⟩ : ∃ q, fu = q + 1 := ⟨fu - 1, by omega⟩
    have ih := jy_loop hN1 hK hN hW hR hT hC hk m (i + 1) fu
    show Rn (g_X12_joinsAll_35 N sh k14 (f_X12_joinsAll_35 N sh k14 fu) (z + 242) l1 l2 l3 (nI i) d) _
    have n0 := hN.1
    unfold g_X12_joinsAll_35
    refine rdg hK hR.1 0 rfl (by decide) ?_
    rw [n0.1]
    refine rn_f (nI_ge (by omega) (by omega)) ?_
    refine rn_bind (m_isApart hN1 hK hN hW hR.1 hT hC (y := i) (by omega)) (fun v hv => ?_)
    exact jx_loop hK hN hR hC (by omega) hv (fun a1 a2 a3 h => ih a1 a2 a3 (by omega) (by omega) h) (nn R 0) 0 N l1 l2 l3 (by omega) (by omega) (hJ.cg (fun x y n _ => ⟨fun r => Or.inl r, fun r => by omega⟩))
/-- what joinsAll() touches -/
def JF (z : Nat) (d d' : Dt) : Prop := d'.2 = d.2 ∧ (∀ a, a ≠ z + 242 → a ≠ z + 251 → a ≠ z + 253 → d'.1 a = d.1 a) ∧ ∀ k, k ≠ 19 → d'.1 (z + 242) k = d.1 (z + 242) k
theorem JF.rf : JF z d d := ⟨rfl, fun _ _ _ _ => rfl, fun _ _ => rfl⟩
theorem JF.tr {d1 d2 : Dt} (h1 : JF z d d1) (h2 : JF z d1 d2) : JF z d d2 := ⟨h2.1.trans h1.1, fun a q1 q2 q3 => (h2.2.1 a q1 q2 q3).trans (h1.2.1 a q1 q2 q3), fun k q => (h2.2.2 k q).trans (h1.2.2 k q)⟩
theorem CF.jf (h : CF z d d') : JF z d d' := ⟨h.1, fun a _ _ q => h.2 a q, fun k _ => by rw [h.2 (z + 242) (by omega)]⟩
theorem TF.jf (h : TF z d d') : JF z d d' := ⟨h.1, fun a _ q _ => h.2 a q, fun k _ => by rw [h.2 (z + 242) (by omega)]⟩
theorem JF.w {v : Int32} : JF z d (wI d (z + 242) 19 v) := ⟨rfl, fun a q _ _ => wI_n q, fun k q => by rw [wI_s, va_up_n q]⟩
theorem JF.rc (h : JF z d d') (hR : RCx d z R) : RCx d' z R := by
  unfold RCx
  rw [h.2.1 (z + 243) (by omega) (by omega) (by omega), h.2.1 (z + 247) (by omega) (by omega) (by omega)]
  exact hR
theorem join_loop (hNf : 2 ^ 40 ≤ N) (hK : KS sh z) (hN : WN R) (hW : WS R) (hR : RCx d0 z R) : ∀ (k fu : Nat) (d : Dt) (T : Nat → Nat), lc R T < k → k ≤ fu → (∀ s, s < nn R 1 → T s + 120 * k ≤ 8000) → JF z d0 d → TV2 z R d T → CM d z (rch R T 0) → Rn (f_X12_joinsAll_14 N sh fu (z + 242) d) (fun r => JF z d0 r.2 ∧ ((joinF R k T = none ∧ r.1 = 0) ∨ ∃ T', joinF R k T = some T' ∧ r.1 = 1 ∧ TV2 z R r.2 T'))
  | 0, fu, d, T, hl, hf, hB, hM, hT, hC => absurd hl (Nat.not_lt_zero _)
  | k + 1, fu, d, T, hl, hf, hB, hM, hT, hC => by
    obtain ⟨fu, rfl⟩ : ∃ q, fu = q + 1 := ⟨fu - 1, by omega⟩
    have ih := join_loop hNf hK hN hW hR k fu
    show Rn (g_X12_joinsAll_14 N sh (f_X12_joinsAll_14 N sh fu) (z + 242) d) _
    have n0 := hN.1.2
    have hRd := hM.rc hR
    have hTM : TM z R d T := fun s hs => ⟨hT s hs, by have := hB s hs; omega⟩
    unfold g_X12_joinsAll_14
    refine r_gP hK 242 12 14 251 rfl (by decide) ?_
    refine rn_bind (m_hasMore (by omega) hK hN hW hRd.1 hTM hC) (fun v hv => ?_)
    unfold joinF
    rcases hv with ⟨rfl, hc⟩ | ⟨rfl, hc⟩
    · refine rn_t rfl ?_
      rw [ite_p hc]
      exact rn_some ⟨hM, Or.inr ⟨T, rfl, rfl, hT⟩⟩
    · refine rn_f (by decide) ?_
      rw [ite_n hc]
      refine jy_loop (by omega) hK hN hW hRd hTM hC (fun l1 l2 l3 hJ => ?_) (nn R 0) 0 N (-1) (-1) (nI (2 ^ 28)) (by omega) (by omega) (Or.inl ⟨rfl, fun x y n h => absurd h (Nat.not_lt_zero y)⟩)
      unfold f_X12_joinsAll_149
      rcases hJ with ⟨j1, j2⟩ | ⟨p, q, n, j1, j2, j3, j4, -, j6, j7⟩
      · rw [j1]
        refine rn_f (by decide) ?_
        rw [ite_n (fun ⟨p, q, n, h, _⟩ => j2 p q n trivial h)]
        exact rn_some ⟨hM, Or.inl ⟨rfl, rfl⟩⟩
      · have hjb : jb R T p q := ⟨n, j6, fun x y n' hc' => j7 x y n' trivial hc'⟩
        rw [j1, j2, j3]
        refine rn_t (nI_lt (b := 268435456) (by omega) (by decide)) ?_
        rw [ite_p ⟨p, q, hjb⟩]
        obtain ⟨a1, a2, a3, a4, a5⟩ := jn1_props hW hN hjb
        have ej : jn1 R T = addL 2 T (wayL R q 60 p) := by
          unfold jn1
          rw [jnP_eq hjb]
        refine rn_bind (m_adds (n9 := 2) hNf hK hN hW hRd j6.2.1 j6.2.2.2.1 j6.2.2.2.2 hT) (fun d1 hd1 => ?_)
        refine r_gI hK (i := 242) (c := 12) rfl ?_
        refine r_pI hK (i := 242) (c := 12) rfl ?_
        refine r_gP hK 242 12 14 251 rfl (by decide) ?_
        have hM1 := (hM.tr hd1.1.jf).tr (JF.w (v := d1.1 (z + 242) 19 + 1))
        have hT1 : TV2 z R (wI d1 (z + 242) 19 (d1.1 (z + 242) 19 + 1)) (jn1 R T) := fun s hs => by
          rw [wI_n (by omega), ej]
          exact hd1.2 s hs
        have hB1 : ∀ s, s < nn R 1 → jn1 R T s + 120 * k ≤ 8000 := fun s hs => by
          have := hB s hs
          have := a2 s
          omega
        refine rn_bind (m_follows (c := 0) hNf hK hN hW (hM1.rc hR).1 (fun s hs => ⟨hT1 s hs, by have := hB1 s hs; omega⟩) (by decide)) (fun d2 hd2 => ?_)
        refine ih d2 (jn1 R T) (by omega) (by omega) hB1 (hM1.tr hd2.1.jf) (fun s hs => ?_) hd2.2
        rw [hd2.1.2 (z + 251) (by omega)]
        exact hT1 s hs
theorem m_joinsAll (hNf : 2 ^ 40 ≤ N) (hK : KS sh z) (hN : WN R) (hW : WS R) (hR : RCx d z R) (hB : ∀ s, s < nn R 1 → T s ≤ 2) (hT : TV2 z R d T) : Rn (f_X12_joinsAll N sh (z + 242) d) (fun r => JF z d r.2 ∧ ((joinF R 60 T = none ∧ r.1 = 0) ∨ ∃ T', joinF R 60 T = some T' ∧ r.1 = 1 ∧ TV2 z R r.2 T')) := by
  unfold f_X12_joinsAll
  refine rn_t (ks_o hK 242 12 rfl) ?_
  refine r_pI hK (i := 242) (c := 12) rfl ?_
  refine r_gP hK 242 12 14 251 rfl (by decide) ?_
  have hM1 : JF z d (wI d (z + 242) 19 0) := JF.w
  have hT1 : TV2 z R (wI d (z + 242) 19 0) T := fun s hs => by
    rw [wI_n (by omega)]
    exact hT s hs
  refine rn_bind (m_follows (c := 0) hNf hK hN hW (hM1.rc hR).1 (fun s hs => ⟨hT1 s hs, by have := hB s hs; omega⟩) (by decide)) (fun d2 hd2 => ?_)
  refine join_loop hNf hK hN hW hR 60 N d2 T (lc_59 hN) (by omega) (fun s hs => by have := hB s hs; omega) (hM1.tr hd2.1.jf) (fun s hs => ?_) hd2.2
  rw [hd2.1.2 (z + 251) (by omega)]
  exact hT1 s hs
end JR
/-! 77.joink.lean.txt -/
/-! JOINING, the class -/
def PF (z : Nat) (d d' : Dt) : Prop := d'.2.2 = d.2.2 ∧ (∀ a, a ≠ z + 228 → a ≠ z + 229 → a ≠ z + 232 → d'.1 a = d.1 a) ∧ ∀ a, a ≠ z + 234 → d'.2.1 a = d.2.1 a
def WX (sh : Sh) (d : Dt) (z : Nat) (ow : Nat → Nat) (R : Nat → Int32) (L : Nat → Nat) (M : Nat → Prop) : Prop := SPN d z ∧ TB sh d z ow 4 9 (nn R 1) (vS R) L ∧ HopOK d z R ∧ ∀ b, M b → b < nn R 0 ∧ ∀ a, a < 60 → dOK R 1000000000 a b (d.1 (z + (141 + b)) a)
section JK
variable {β : Type} {Q : Int32 × Dt → Prop} {sh : Sh} {d d0 d' : Dt} {z : Nat} {ow : Nat → Nat} {R K : Nat → Int32} {N b : Nat} {T : Nat → Nat} {L : Nat → Nat} {M : Nat → Prop}
theorem PF.rf : PF z d d := ⟨rfl, fun _ _ _ _ => rfl, fun _ _ => rfl⟩
theorem PF.tr {d1 d2 : Dt} (h1 : PF z d d1) (h2 : PF z d1 d2) : PF z d d2 := ⟨h2.1.trans h1.1, fun a q1 q2 q3 => (h2.2.1 a q1 q2 q3).trans (h1.2.1 a q1 q2 q3), fun a q => (h2.2.2 a q).trans (h1.2.2 a q)⟩
theorem PF.w {i k : Nat} {v : Int32} (hi : i = 228 ∨ i = 229 ∨ i = 232) : PF z d (wI d (z + i) k v) := ⟨rfl, fun a q1 q2 q3 => wI_n (by omega), fun _ _ => rfl⟩
theorem NF.pf (h : NF z d d') : PF z d d' := ⟨h.2.1, fun a _ _ _ => by rw [h.1], h.2.2⟩
set_option maxRecDepth 20000 in
theorem cO_pl {i : Nat} (h : 228 ≤ i) (h2 : i ≤ 234) : cOl.getD i 1 = 0 := by
  have := List.all_eq_true.mp (show (List.range' 228 7).all (fun i => Nat.beq (cOl.getD i 1) 0) = true by decide +kernel) i (List.mem_range'_1.mpr ⟨by omega, by omega⟩)
  exact Nat.eq_of_beq_eq_true this
theorem PF.fd (h : PF z d d') (hw : OWS ow z) : FD (IX z ow 228 234) d d' := fun a ha => by
  have q : ∀ i, 228 ≤ i → i ≤ 234 → a ≠ z + i := fun i h1 h2 e => by
    refine ha ?_
    rw [e]
    unfold IX
    rw [onr_s (hw i (by omega) (cO_pl h1 h2)) (by omega)]
    exact ⟨h1, h2⟩
  exact ⟨h.2.1 a (q 228 (by omega) (by omega)) (q 229 (by omega) (by omega)) (q 232 (by omega) (by omega)), h.2.2 a (q 234 (by omega) (by omega)), by rw [h.1], by rw [h.1]⟩
theorem WX.pf (h : WX sh d z ow R L M) (hN : WN R) (hK : KS sh z) (hw : OWS ow z) (hf : PF z d d') : WX sh d' z ow R L M := by
  obtain ⟨h1, h2, h3, h4⟩ := h
  have r : ∀ i, i < 228 → d'.1 (z + i) = d.1 (z + i) := fun i hi => hf.2.1 (z + i) (by omega) (by omega) (by omega)
  refine ⟨?_, tb_ix (s := (sh, d)) (s' := (sh, d')) h2 hK hw (by decide) ((hf.fd hw).es) (by omega), ⟨fun u v hu hv => ?_, fun u v hv hu => ?_⟩, fun b hb => ⟨(h4 b hb).1, fun a ha => ?_⟩⟩
  · unfold SPN
    rw [hf.1]
    exact h1
  · rw [r (79 + u) (by omega), hf.2.2 (z + 139) (by omega)]
    exact h3.1 u v hu hv
  · rw [hf.2.2 (z + 139) (by omega)]
    exact h3.2 u v hv hu
  · have := (h4 b hb).1
    have := hN.1.2
    rw [r (141 + b) (by omega)]
    exact (h4 b hb).2 a ha
/-- left of the planner, after THE WAY is added -/
theorem addWay_loop {n9 : Nat} {Q : Dt → Prop} (hN2 : 300 ≤ N) (hK : KS sh z) (hw : OWS ow z) (hN : WN R) (hW : WS R) (hX : WX sh d0 z ow R L M) (hb : M b) (hQ : ∀ (d' : Dt) (T' : Nat → Nat), PF z d0 d' → (∀ s, s < nn R 1 → d'.1 (z + 232) s = nI (T' s)) → (∀ a, a ≠ z + 232 → d'.1 a = d0.1 a) → T' = T → Q d') : ∀ (m k fu a : Nat) (d : Dt) (T0 : Nat → Nat) (l5 : Int32), k + m = 60 → m < fu → rk R b m a → a < nn R 0 → ((l5 = -1 ∧ a = b) ∨ (a ≠ b ∧ l5 = nI (nxt R b a).1)) → PF z d0 d → (∀ a, a ≠ z + 232 → d.1 a = d0.1 a) → (∀ s, s < nn R 1 → d.1 (z + 232) s = nI (T0 s)) → addL n9 T0 (wayL R b m a) = T → Rn (f_X5_addWay_18 N sh fu (z + 221) (nI b) (nI n9) (nI a) l5 (nI k) d) Q
  | 0, k, fu, a, d, T0, l5, hk, hf, hr, ha, h5, hM, hM2, hT, hE => by
    obtain ⟨fu, rfl⟩ : ∃ q, fu = q + 1 := ⟨fu - 1, by omega⟩
    show Rn (g_X5_addWay_18 N sh (f_X5_addWay_18 N sh fu) (z + 221) (nI b) (nI n9) (nI a) l5 (nI k) d) _
    unfold g_X5_addWay_18
    refine rn_t ((nI_leI (a := 60) (by omega) (by omega)).mpr (by omega)) ?_
    exact rn_some (hQ d T0 hM hT hM2 hE)
  | m + 1, k, fu, a, d, T0, l5, hk, hf, hr, ha, h5, hM, hM2, hT, hE => by
    obtain ⟨fu, rfl⟩ : ∃ q, fu = q + 1 := ⟨fu - 1, by omega⟩
    have n0 := hN.1.2
    have n1 := hN.2.1.2
    show Rn (g_X5_addWay_18 N sh (f_X5_addWay_18 N sh fu) (z + 221) (nI b) (nI n9) (nI a) l5 (nI k) d) _
    unfold g_X5_addWay_18
    refine rn_f (nI_ge (b := 60) (by omega) (by decide)) ?_
    unfold wayL at hE
    rcases h5 with ⟨e5, e⟩ | ⟨e, e5⟩
    · refine rn_t e5 ?_
      rw [if_pos e] at hE
      exact rn_some (hQ d T0 hM hT hM2 hE)
    · rw [if_neg e] at hE
      obtain ⟨⟨n, hd⟩, hq, hrk⟩ := hr.resolve_left e
      obtain ⟨t1, t2, n', m', t3, t4, t5⟩ := id hq.1
      have hs := t2.1
      rw [e5]
      refine rn_f (nI_m1 (by omega)) ?_
      have hA := ks_a hK 232 0 150 rfl
      refine r_gP hK 221 5 9 232 rfl (by decide) ?_
      refine rn_eq (q_aT hA (nxt R b a).1 rfl (by omega) (by decide)) ?_
      rw [hT _ hs, nI_add]
      refine rn_eq (q_sI hA (nxt R b a).1 rfl (by omega) (by decide)) ?_
      have hM1 : PF z d0 (wI d (z + 232) (nxt R b a).1 (nI (T0 (nxt R b a).1 + n9))) := hM.tr (PF.w (by omega))
      obtain ⟨x1, x2, x3, x4⟩ := hX.pf hN hK hw hM1
      refine r_gP hK 221 5 0 3 rfl (by decide) ?_
      refine rn_eq (k_otherEnd hK x2 hs) ?_
      rw [oth_edge hW hN ha t1 t2]
      refine r_gP hK 221 5 1 77 rfl (by decide) ?_
      obtain ⟨y1, y2⟩ := x4 b hb
      have kn := k_nextStreet (N := N) hN2 hK hN hW x1 x2 x3 y1 y2 t1
      rw [nI_1]
      have hT1 : ∀ s, s < nn R 1 → (wI d (z + 232) (nxt R b a).1 (nI (T0 (nxt R b a).1 + n9))).1 (z + 232) s = nI (va_up T0 (nxt R b a).1 (T0 (nxt R b a).1 + n9) s) := fun s hs9 => by
        rw [wI_s]
        by_cases es : s = (nxt R b a).1
        · rw [es, va_up_s, va_up_s]
        · rw [va_up_n es, va_up_n es]
          exact hT s hs9
      have hM3 : ∀ x, x ≠ z + 232 → (wI d (z + 232) (nxt R b a).1 (nI (T0 (nxt R b a).1 + n9))).1 x = d0.1 x := fun x hx => by
        rw [wI_n hx]
        exact hM2 x hx
      by_cases e2 : (nxt R b a).2 = b
      · refine rn_eq (kn.2 (Or.inl e2)) ?_
        exact addWay_loop hN2 hK hw hN hW hX hb hQ m (k + 1) fu _ _ _ _ (by omega) (by omega) hrk t1 (Or.inl ⟨rfl, e2⟩) hM1 hM3 hT1 hE
      · refine rn_eq (kn.1 ⟨m', t4⟩ e2) ?_
        exact addWay_loop hN2 hK hw hN hW hX hb hQ m (k + 1) fu _ _ _ _ (by omega) (by omega) hrk t1 (Or.inr ⟨e2, rfl⟩) hM1 hM3 hT1 hE
theorem k_addWay {a n n9 : Nat} (hN2 : 300 ≤ N) (hK : KS sh z) (hw : OWS ow z) (hN : WN R) (hW : WS R) (hX : WX sh d z ow R L M) (hb : M b) (ha : a < nn R 0) (hd : dst R a b n) (hT : ∀ s, s < nn R 1 → d.1 (z + 232) s = nI (T s)) : Rn (f_X5_addWay N sh (z + 221) (nI a) (nI b) (nI n9) d) (fun d' => PF z d d' ∧ (∀ s, s < nn R 1 → d'.1 (z + 232) s = nI (addL n9 T (wayL R b 60 a) s)) ∧ ∀ a, a ≠ z + 232 → d'.1 a = d.1 a) := by
  obtain ⟨x1, x2, x3, x4⟩ := id hX
  obtain ⟨y1, y2⟩ := x4 b hb
  have kn := k_nextStreet (N := N) hN2 hK hN hW x1 x2 x3 y1 y2 ha
  unfold f_X5_addWay
  refine rn_t (ks_o hK 221 5 rfl) ?_
  refine r_gP hK 221 5 1 77 rfl (by decide) ?_
  have fin : ∀ l5, ((l5 = -1 ∧ a = b) ∨ (a ≠ b ∧ l5 = nI (nxt R b a).1)) → Rn (f_X5_addWay_18 N sh N (z + 221) (nI b) (nI n9) (nI a) l5 (nI 0) d) (fun d' => PF z d d' ∧ (∀ s, s < nn R 1 → d'.1 (z + 232) s = nI (addL n9 T (wayL R b 60 a) s)) ∧ ∀ a, a ≠ z + 232 → d'.1 a = d.1 a) := fun l5 h5 => addWay_loop (d0 := d) (T := addL n9 T (wayL R b 60 a)) hN2 hK hw hN hW hX hb (fun d' T' h1 h2 h3 h4 => ⟨h1, by rw [← h4]; exact h2, h3⟩) 60 0 N a d T l5 (by omega) (by omega) (rk_60 hW hN hd) ha h5 PF.rf (fun _ _ => rfl) hT rfl
  by_cases e : a = b
  · refine rn_eq (kn.2 (Or.inl e)) ?_
    exact fin _ (Or.inl ⟨rfl, e⟩)
  · refine rn_eq (kn.1 ⟨n, hd⟩ e) ?_
    exact fin _ (Or.inr ⟨e, rfl⟩)
end JK
/-! 78.joink2.lean.txt -/
section JK2
variable {Q : Int32 × Dt → Prop} {sh : Sh} {d d0 d' : Dt} {z : Nat} {ow : Nat → Nat} {R K : Nat → Int32} {N b p q : Nat} {T : Nat → Nat} {L : Nat → Nat} {M : Nat → Prop}
theorem jn1_lost (hW : WS R) (hN : WN R) (hj : jb R T p q) (y : Nat) (hy : lost R (jn1 R T) 0 y) : lost R T 0 y := by
  obtain ⟨n, ⟨c1, c2, c3, c4, c5⟩, -⟩ := id hj
  have hrk := rk_60 hW hN c5
  have e : jn1 R T = addL 2 T (wayL R q 60 p) := by
    unfold jn1
    rw [jnP_eq hj]
  rw [e] at hy
  have hm : ∀ v, rch R T 0 v → rch R (addL 2 T (wayL R q 60 p)) 0 v := fun v hv => rch_mono (fun s _ h => by have := addL_ge (n := 2) (wayL R q 60 p) T s; omega) hv
  have hin := way_in (T := addL 2 T (wayL R q 60 p)) (c0 := 0) hW hN 60 p hrk c2 (fun s hs => by have := addL_in (n := 2) (wayL R q 60 p) T s hs; omega) (hm p c1)
  obtain ⟨h1, s, h2, h3, h4⟩ := hy
  have hsn : ¬ s ∈ wayL R q 60 p := fun r => by
    have := hin.1 s r
    rcases h4 with h4 | h4
    · rw [h4] at this
      exact h1 this.1
    · rw [h4] at this
      exact h1 this.2
  rw [addL_out _ _ _ hsn] at h3
  exact ⟨fun r => h1 (hm y r), s, h2, h3, h4⟩
theorem lost_lt {y : Nat} (hW : WS R) (hN : WN R) (h : lost R T 0 y) : y < nn R 0 := by
  obtain ⟨_, s, h2, h3, h4⟩ := h
  obtain ⟨-, a2, -, b2, -⟩ := ws_e hW hN h2
  omega
theorem kx_loop {k13 : Nat → Int64 → Int64 → Int32 → Int32 → Int32 → Int32 → Dt → Option (Int32 × Dt)} {X : Nat} {rc ls : Int64} (hK : KS sh z) (hN : WN R) (hW : WS R) (hX : WX sh d z ow R L M) (hXn : X < 60) (hrc : ∀ v, bit rc v = true ↔ rch R T 0 v) (hls : ∀ v, bit ls v = true ↔ lost R T 0 v) (hM : ∀ y, lost R T 0 y → M y)
    (hk : ∀ l1 l2 l3, JB R T 1000000000 (fun x _ => x < X + 1) l1 l2 l3 → Rn (k13 (z + 221) rc ls l1 l2 l3 (nI (X + 1)) d) Q) : ∀ (m i fu : Nat) (l1 l2 l3 : Int32), i + m = 60 → m < fu → JB R T 1000000000 (fun x y => x < X ∨ (x = X ∧ y < i)) l1 l2 l3 → Rn (f_X5_join_23 N sh k13 fu (z + 221) rc ls l1 l2 l3 (nI X) (nI i) d) Q
  | 0, i, fu, l1, l2, l3, hi, hf, hJ => by
    obtain ⟨fu, rfl⟩ : ∃ q, fu = q + 1 := ⟨fu - 1, by omega⟩
    show Rn (g_X5_join_23 N sh k13 (f_X5_join_23 N sh k13 fu) (z + 221) rc ls l1 l2 l3 (nI X) (nI i) d) _
    have n0 := hN.1.2
    unfold g_X5_join_23 f_X5_join_95
    rw [nI_1]
    refine rn_t ((nI_leI (a := 60) (by omega) (by omega)).mpr (by omega)) ?_
    refine hk l1 l2 l3 (hJ.cg (fun x y n hc => ⟨fun r => by omega, fun r => ?_⟩))
    have := hc.2.2.2.1
    have r : x < X + 1 := r
    omega
  | m + 1, i, fu, l1, l2, l3, hi, hf, hJ => by
    obtain ⟨fu, rfl⟩ : ∃ q, fu = q + 1 := ⟨fu - 1, by omega⟩
    have ih := kx_loop hK hN hW hX hXn hrc hls hM hk m (i + 1) fu
    show Rn (g_X5_join_23 N sh k13 (f_X5_join_23 N sh k13 fu) (z + 221) rc ls l1 l2 l3 (nI X) (nI i) d) _
    have n0 := hN.1.2
    unfold g_X5_join_23 f_X5_join_95 f_X5_join_89
    rw [nI_1, nI_1]
    refine rn_f (nI_ge (b := 60) (by omega) (by decide)) ?_
    refine rn_ite (fun h1 => ?_) (fun h1 => ?_)
    · have h1 : ¬ rch R T 0 X := fun r => h1 ((bit_tst hXn).mpr ((hrc X).mpr r))
      refine hk l1 l2 l3 (hJ.cg (fun x y n hc => ⟨fun r => by omega, fun r => ?_⟩))
      have r : x < X + 1 := r
      by_cases e : x = X
      · rw [e] at hc
        exact absurd hc.1 h1
      · exact Or.inl (by omega)
    · have h1 : rch R T 0 X := (hrc X).mp ((bit_tst hXn).mp (Decidable.of_not_not h1))
      have nxt9 : ∀ l1 l2 l3, JB R T 1000000000 (fun x y => (x < X ∨ (x = X ∧ y < i)) ∨ (x = X ∧ y = i)) l1 l2 l3 → Rn (f_X5_join_23 N sh k13 fu (z + 221) rc ls l1 l2 l3 (nI X) (nI (i + 1)) d) Q := fun l1 l2 l3 h => ih l1 l2 l3 (by omega) (by omega) (h.cg (fun x y n _ => ⟨fun r => by omega, fun r => by omega⟩))
      refine rn_ite (fun h2 => ?_) (fun h2 => ?_)
      · have h2 : ¬ lost R T 0 i := fun r => h2 ((bit_tst (by omega)).mpr ((hls i).mpr r))
        exact nxt9 _ _ _ (hJ.skip (fun n9 hn9 => absurd hn9.2.2.1 h2))
      · have h2 : lost R T 0 i := (hls i).mp ((bit_tst (by omega)).mp (Decidable.of_not_not h2))
        have hin := lost_lt hW hN h2
        obtain ⟨x1, x2, x3, x4⟩ := id hX
        obtain ⟨y1, y2⟩ := x4 i (hM i h2)
        refine r_gP hK 221 5 1 77 rfl (by decide) ?_
        refine rn_eq (k_between hK x1 hXn (by omega)) ?_
        rcases y2 X hXn with ⟨n, r1, r2, r3⟩ | ⟨r1, r3⟩
        · rw [r3]
          have hc : X < nn R 0 → cand R T X i n := fun hx => ⟨h1, hx, h2, hin, r1⟩
          have hx : X < nn R 0 := by
            rcases Nat.lt_or_ge X (nn R 0) with q | q
            · exact q
            · obtain ⟨⟨p, hp, _⟩, _⟩ := r1
              cases p with
              | nil =>
                have e : X = i := hp
                omega
              | cons s p =>
                obtain ⟨c, q1, q2, -⟩ := hp
                have := (edge_lt hW hN q2 (by omega) (by omega)).1
                omega
          have hc := hc hx
          refine rn_ite (fun h3 => ?_) (fun h3 => ?_)
          · rcases hJ with ⟨j1, j2⟩ | ⟨p, q, n', j1, j2, j3, j4, j5, j6, j7⟩
            · rw [j1] at h3
              have := (nI_leI (by decide) (by omega)).mp h3
              omega
            · have hJ : JB R T 1000000000 (fun x y => x < X ∨ (x = X ∧ y < i)) l1 l2 l3 := Or.inr ⟨p, q, n', j1, j2, j3, j4, j5, j6, j7⟩
              rw [j3] at h3
              have h3 := (nI_leI (by omega) (by omega)).mp h3
              refine nxt9 _ _ _ (hJ.skip (fun n9 hn9 => ⟨p, q, n', j1, j2, j3, j4, j5, j6, j7, ?_⟩))
              have := dst_fun hc.2.2.2.2 hn9.2.2.2.2
              have j5 : p < X ∨ (p = X ∧ q < i) := j5
              omega
          · refine r_gP hK 221 5 1 77 rfl (by decide) ?_
            refine rn_eq (k_between hK x1 hXn (by omega)) ?_
            rw [r3]
            refine nxt9 _ _ _ (hJ.take hc r2 (fun p q n' e1 e2 _ _ e3 => Or.inl ?_))
            rw [e2] at h3
            exact Nat.lt_of_not_le (fun q => h3 ((nI_leI (by omega) (by omega)).mpr q))
        · rw [r3]
          have hsk := hJ.skip (x0 := X) (y0 := i) (fun n9 hn9 => by
            obtain ⟨⟨p, hp, _⟩, _⟩ := hn9.2.2.2.2
            exact absurd hp (r1 p))
          refine rn_t ?_ (nxt9 _ _ _ hsk)
          rcases hJ with ⟨j1, -⟩ | ⟨p, q, n', j1, j2, j3, j4, -⟩
          · rw [j1]
            exact (nI_leI (by decide) (by decide)).mpr (Nat.le_refl _)
          · rw [j3]
            exact (nI_leI (by omega) (by decide)).mpr (by omega)
theorem ky_loop {rc ls : Int64} (hN2 : 300 ≤ N) (hK : KS sh z) (hN : WN R) (hW : WS R) (hX : WX sh d z ow R L M) (hrc : ∀ v, bit rc v = true ↔ rch R T 0 v) (hls : ∀ v, bit ls v = true ↔ lost R T 0 v) (hM : ∀ y, lost R T 0 y → M y)
    (hk : ∀ l1 l2 l3, JB R T 1000000000 (fun _ _ => True) l1 l2 l3 → Rn (f_X5_join_101 N sh (z + 221) l1 l2 l3 d) Q) : ∀ (m i fu : Nat) (l1 l2 l3 : Int32), i + m = 60 → m < fu → JB R T 1000000000 (fun x _ => x < i) l1 l2 l3 → Rn (f_X5_join_13 N sh fu (z + 221) rc ls l1 l2 l3 (nI i) d) Q
  | 0, i, fu, l1, l2, l3, hi, hf, hJ => by
    obtain ⟨fu, rfl⟩ : ∃ q, fu = q + 1 := ⟨fu - 1, by omega⟩
    show Rn (g_X5_join_13 N sh (f_X5_join_13 N sh fu) (z + 221) rc ls l1 l2 l3 (nI i) d) _
    have n0 := hN.1.2
    unfold g_X5_join_13
    refine rn_t ((nI_leI (a := 60) (by omega) (by omega)).mpr (by omega)) ?_
    refine hk l1 l2 l3 (hJ.cg (fun x y n hc => ⟨fun _ => trivial, fun _ => ?_⟩))
    have := hc.2.1
    show x < i
    omega
  | m + 1, i, fu, l1, l2, l3, hi, hf, hJ => by
    obtain ⟨fu, rfl⟩ : ∃ q, fu = q + 1 := ⟨fu - 1, by omega⟩
    have ih := ky_loop hN2 hK hN hW hX hrc hls hM hk m (i + 1) fu
    show Rn (g_X5_join_13 N sh (f_X5_join_13 N sh fu) (z + 221) rc ls l1 l2 l3 (nI i) d) _
    unfold g_X5_join_13
    refine rn_f (nI_ge (b := 60) (by omega) (by decide)) ?_
    exact kx_loop hK hN hW hX (by omega) hrc hls hM (fun a1 a2 a3 h => ih a1 a2 a3 (by omega) (by omega) h) 60 0 N l1 l2 l3 (by omega) (by omega) (hJ.cg (fun x y n _ => ⟨fun r => Or.inl r, fun r => by omega⟩))
/-- the planner, with left = T -/
theorem PL.pf {T' : Nat → Nat} (h : PL d z R T) (hf : PF z d d') (hT : ∀ s, s < nn R 1 → d'.1 (z + 232) s = nI (T' s) ∧ T' s < 2 ^ 30) : PL d' z R T' := by
  refine ⟨?_, fun s hs => ⟨?_, ?_, hT s hs⟩⟩
  · rw [hf.2.1 (z + 221) (by omega) (by omega) (by omega)]
    exact h.1
  · rw [hf.2.1 (z + 230) (by omega) (by omega) (by omega)]
    exact (h.2 s hs).1
  · rw [hf.2.1 (z + 231) (by omega) (by omega) (by omega)]
    exact (h.2 s hs).2.1
theorem joinAll_loop (hN2 : 300 ≤ N) (hK : KS sh z) (hw : OWS ow z) (hN : WN R) (hW : WS R) (hX : WX sh d0 z ow R L M) : ∀ (k i fu : Nat) (d : Dt) (T : Nat → Nat), i + k = 60 → k < fu → (∀ s, s < nn R 1 → T s + 120 * k ≤ 8000) → PF z d0 d → PL d z R T → (∀ y, lost R T 0 y → M y) → Rn (f_X5_joinAll_2 N sh fu (z + 221) (nI i) d) (fun r => PF z d0 r.2 ∧ ((joinF R k T = none ∧ r.1 = 0) ∨ ∃ T', joinF R k T = some T' ∧ r.1 = 1 ∧ PL r.2 z R T'))
  | 0, i, fu, d, T, hi, hf, hB, hM, hP, hl => by
    obtain ⟨fu, rfl⟩ : ∃ q, fu = q + 1 := ⟨fu - 1, by omega⟩
    show Rn (g_X5_joinAll_2 N sh (f_X5_joinAll_2 N sh fu) (z + 221) (nI i) d) _
    unfold g_X5_joinAll_2
    refine rn_t ((nI_leI (a := 60) (by omega) (by omega)).mpr (by omega)) ?_
    exact rn_some ⟨hM, Or.inl ⟨rfl, rfl⟩⟩
  | k + 1, i, fu, d, T, hi, hf, hB, hM, hP, hl => by
    obtain ⟨fu, rfl⟩ : ∃ q, fu = q + 1 := ⟨fu - 1, by omega⟩
    have ih := joinAll_loop hN2 hK hw hN hW hX k (i + 1) fu
    show Rn (g_X5_joinAll_2 N sh (f_X5_joinAll_2 N sh fu) (z + 221) (nI i) d) _
    unfold g_X5_joinAll_2
    refine rn_f (nI_ge (b := 60) (by omega) (by decide)) ?_
    refine rn_bind (k_look hN2 hK hN hW hP) (fun r hr => ?_)
    obtain ⟨n1, l1, l2⟩ := hr
    refine rn_bind (k_reached (c := 0) (T := T) hN2 hK hN hW (by decide) l1) (fun rc hrc => ?_)
    have hM1 := hM.tr n1.pf
    have hX1 := hX.pf hN hK hw hM1
    have hP1 : PL r.2 z R T := hP.pf n1.pf (fun s hs => by rw [n1.1]; exact ⟨(hP.2 s hs).2.2.1, (hP.2 s hs).2.2.2⟩)
    have hls : ∀ v, bit (r.1 &&& (rc ^^^ (-1))) v = true ↔ lost R T 0 v := fun v => by
      rw [bit_and, Bool.and_eq_true, l2 v]
      unfold lost
      refine ⟨fun q => ⟨fun r9 => ?_, q.1⟩, fun q => ⟨q.2, ?_⟩⟩
      · have := q.2
        rw [bit_not (bit_big ((l2 v).mpr q.1)), (hrc v).mpr r9] at this
        cases this
      · rw [bit_not (bit_big ((l2 v).mpr q.2)), bool_f (fun r9 => q.1 ((hrc v).mp r9))]
        rfl
    have hcn : (r.1 &&& (rc ^^^ (-1))) = 0 ↔ conn R T 0 := by
      refine ⟨fun q s hs hp => ?_, fun q => ?_⟩
      · by_cases r9 : rch R T 0 (eA R s)
        · exact r9
        · have := (hls (eA R s)).mpr ⟨r9, s, hs, hp, Or.inl rfl⟩
          rw [q, bit_0] at this
          cases this
      · by_cases h0 : (r.1 &&& (rc ^^^ (-1))) = 0
        · exact h0
        · obtain ⟨v, _, v1, _⟩ := bit_ex h0
          obtain ⟨w1, s, w2, w3, w4⟩ := (hls v).mp v1
          have r9 := q s w2 w3
          rcases w4 with w4 | w4
          · rw [w4] at r9
            exact absurd r9 w1
          · exact absurd (rch_step r9 ⟨s, w2, w3, Or.inl ⟨rfl, w4⟩⟩) w1
    unfold joinF
    by_cases hc : conn R T 0
    · refine rn_f (fun q => q (cmp0.mpr (hcn.mpr hc))) ?_
      rw [ite_p hc]
      exact rn_some ⟨hM1, Or.inr ⟨T, rfl, rfl, hP1⟩⟩
    · refine rn_t (fun q => hc (hcn.mp (cmp0.mp q))) ?_
      rw [ite_n hc]
      refine rn_bind (P := fun r9 => PF z d0 r9.2 ∧ ((¬ (∃ p q, jb R T p q) ∧ r9.1 = 0) ∨ ∃ p q, jb R T p q ∧ r9.1 = 1 ∧ PL r9.2 z R (jn1 R T))) ?_ (fun r9 h9 => ?_)
      · unfold f_X5_join
        refine rn_t (ks_o hK 221 5 rfl) ?_
        refine ky_loop hN2 hK hN hW hX1 hrc hls hl (fun a1 a2 a3 hJ => ?_) 60 0 N (-1) (-1) (nI 1000000000) (by omega) (by omega) (Or.inl ⟨rfl, fun x y n h => absurd h (Nat.not_lt_zero x)⟩)
        unfold f_X5_join_101
        rcases hJ with ⟨j1, j2⟩ | ⟨p, q, n, j1, j2, j3, j4, -, j6, j7⟩
        · rw [j1]
          refine rn_f (by decide) ?_
          exact rn_some ⟨hM1, Or.inl ⟨fun ⟨p, q, n, h, _⟩ => j2 p q n trivial h, rfl⟩⟩
        · have hjb : jb R T p q := ⟨n, j6, fun x y n' hc' => j7 x y n' trivial hc'⟩
          rw [j1, j2, j3]
          refine rn_t (nI_lt (b := 1000000000) (by omega) (by decide)) ?_
          obtain ⟨b1, b2, b3, b4, b5⟩ := jn1_props hW hN hjb
          have ej : jn1 R T = addL 2 T (wayL R q 60 p) := by
            unfold jn1
            rw [jnP_eq hjb]
          refine rn_bind (k_addWay (n9 := 2) hN2 hK hw hN hW hX1 (hl q j6.2.2.1) j6.2.1 j6.2.2.2.2 (fun s hs => (hP1.2 s hs).2.2.1)) (fun d2 hd2 => ?_)
          refine rn_some ⟨hM1.tr hd2.1, Or.inr ⟨p, q, hjb, rfl, hP1.pf hd2.1 (fun s hs => ⟨?_, ?_⟩)⟩⟩
          · rw [ej]
            exact hd2.2.1 s hs
          · have := hB s hs
            have := b2 s
            omega
      · obtain ⟨m9, q9⟩ := h9
        rcases q9 with ⟨q1, q2⟩ | ⟨p, q, q1, q2, q3⟩
        · refine rn_f (fun r9 => r9 q2) ?_
          rw [ite_n q1]
          exact rn_some ⟨m9, Or.inl ⟨rfl, rfl⟩⟩
        · refine rn_t (by rw [q2]; decide) ?_
          rw [ite_p (show ∃ p q, jb R T p q from ⟨p, q, q1⟩)]
          obtain ⟨b1, b2, b3, b4, b5⟩ := jn1_props hW hN q1
          refine r_gP hK 221 5 4 228 rfl (by decide) ?_
          refine rn_eq (q_aT (ks_a hK 228 0 7 rfl) 3 rfl (by decide) (by decide)) ?_
          refine rn_eq (q_sI (ks_a hK 228 0 7 rfl) 3 rfl (by decide) (by decide)) ?_
          rw [nI_1]
          have pf2 : PF z r9.2 (wI r9.2 (z + 228) 3 (r9.2.1 (z + 228) 3 + 1)) := PF.w (Or.inl rfl)
          refine ih _ (jn1 R T) (by omega) (by omega) (fun s hs => ?_) (m9.tr pf2) (q3.pf pf2 (fun s hs => ?_)) (fun y hy => hl y (jn1_lost hW hN q1 y hy))
          · have := hB s hs
            have := b2 s
            omega
          · rw [wI_n (by omega)]
            exact ⟨(q3.2 s hs).2.2.1, (q3.2 s hs).2.2.2⟩
theorem k_joinAll (hN2 : 300 ≤ N) (hK : KS sh z) (hw : OWS ow z) (hN : WN R) (hW : WS R) (hX : WX sh d z ow R L M) (hB : ∀ s, s < nn R 1 → T s ≤ 2) (hP : PL d z R T) (hl : ∀ y, lost R T 0 y → M y) : Rn (f_X5_joinAll N sh (z + 221) d) (fun r => PF z d r.2 ∧ ((joinF R 60 T = none ∧ r.1 = 0) ∨ ∃ T', joinF R 60 T = some T' ∧ r.1 = 1 ∧ PL r.2 z R T')) := by
  unfold f_X5_joinAll
  refine rn_t (ks_o hK 221 5 rfl) ?_
  exact joinAll_loop (d0 := d) hN2 hK hw hN hW hX 60 0 N d T (by omega) (by omega) (fun s hs => by have := hB s hs; omega) PF.rf hP hl
end JK2
/-! 79.drvr.lean.txt -/
/-! the DRIVES of (A), the reference -/
def oth (R : Nat → Int32) (s c : Nat) : Nat := if eA R s = c then eB R s else eA R s
def dec1 (T : Nat → Nat) (s : Nat) : Nat → Nat := va_up T s (T s - 1)
def lvS (R : Nat → Int32) (T : Nat → Nat) (c s : Nat) : Prop := s < nn R 1 ∧ 0 < T s ∧ (eA R s = c ∨ eB R s = c) ∧ conn R (dec1 T s) (oth R s c)
noncomputable def lvN (R : Nat → Int32) (T : Nat → Nat) (c : Nat) : Nat := Classical.epsilon (fun s => lvS R T c s ∧ ∀ s', lvS R T c s' → s ≤ s')
noncomputable def drA (R : Nat → Int32) : Nat → (Nat → Nat) → Nat → (Nat → Nat) → List (Nat × Nat × Nat)
  | 0, _, _, _ => []
  | k + 1, T, c, D => @ite _ (∃ s, lvS R T c s) (Classical.propDecidable _) ((lvN R T c, c, if 0 < D (lvN R T c) then 1 else 0) :: drA R k (dec1 T (lvN R T c)) (oth R (lvN R T c) c) (dec1 D (lvN R T c))) []
section DR
variable {β : Type} {Q : Dt → Prop} {sh : Sh} {d d0 d' : Dt} {z : Nat} {R K : Nat → Int32} {N c s k : Nat} {T D : Nat → Nat}
theorem lvN_ok (h : ∃ s, lvS R T c s) : lvS R T c (lvN R T c) ∧ ∀ s', lvS R T c s' → lvN R T c ≤ s' := by
  obtain ⟨s, hs⟩ := h
  obtain ⟨m, h1, h2⟩ := least_ex (P := fun s => lvS R T c s) s s (Nat.le_refl _) hs
  exact Classical.epsilon_spec (p := fun s => lvS R T c s ∧ ∀ s', lvS R T c s' → s ≤ s') ⟨m, h1, h2⟩
theorem lvN_eq (h : lvS R T c s) (hl : ∀ s', s' < s → ¬ lvS R T c s') : lvN R T c = s := by
  have q := lvN_ok ⟨s, h⟩
  have := q.2 s h
  rcases Nat.lt_or_ge (lvN R T c) s with r | r
  · exact absurd q.1 (hl _ r)
  · omega
theorem ldv_bw (hW : WS R) (hN : WN R) (hB : BW R) (hs : s < nn R 1) (ho : R (16 + 9 * s + 4) = 0) (hc : c < 60) : ldv R s (nI c) = if eA R s = c ∨ eB R s = c then nI (oth R s c) else -1 := by
  have n0 := hN.1.2
  obtain ⟨e7, a2, e8, b2, hne⟩ := ws_e hW hN hs
  have e5 := hB s hs ho
  unfold ldv oth
  rw [e7, e8, e5]
  by_cases h1 : eA R s = c
  · rw [if_pos (by rw [h1]), if_pos (Or.inl h1), if_pos h1]
  · rw [if_neg (fun q => h1 (nI_inj q (by omega) (by omega)))]
    by_cases h2 : eB R s = c
    · rw [if_pos ⟨by rw [h2], rfl⟩, if_pos (Or.inr h2), if_neg h1]
    · rw [if_neg (fun q => h2 (nI_inj q.1 (by omega) (by omega))), if_neg (fun q => q.elim h1 h2)]
theorem oth_lt (hW : WS R) (hN : WN R) (hs : s < nn R 1) : oth R s c < nn R 0 := by
  obtain ⟨e7, a2, e8, b2, hne⟩ := ws_e hW hN hs
  unfold oth
  split <;> assumption
/-- what nextStreet() touches -/
def XF (z : Nat) (d d' : Dt) : Prop := d'.2 = d.2 ∧ ∀ a, a ≠ z + 251 → a ≠ z + 253 → d'.1 a = d.1 a
theorem XF.rf : XF z d d := ⟨rfl, fun _ _ _ => rfl⟩
theorem XF.tr {d1 d2 : Dt} (h1 : XF z d d1) (h2 : XF z d1 d2) : XF z d d2 := ⟨h2.1.trans h1.1, fun a q1 q2 => (h2.2 a q1 q2).trans (h1.2 a q1 q2)⟩
theorem XF.w {k : Nat} {v : Int32} : XF z d (wI d (z + 251) k v) := ⟨rfl, fun a q _ => wI_n q⟩
theorem CF.xf (h : CF z d d') : XF z d d' := ⟨h.1, fun a _ q => h.2 a q⟩
theorem XF.ag (h : XF z d d') (hA : AG (d.1 (z + 243)) R) : AG (d'.1 (z + 243)) R := by
  rw [h.2 (z + 243) (by omega) (by omega)]
  exact hA
theorem tv_w {n : Nat} {T' : Nat → Nat} (hT : TV2 z R d T) (h : T' = va_up T s n) : TV2 z R (wI d (z + 251) s (nI n)) T' := fun x hx => by
  rw [wI_s, h]
  by_cases e : x = s
  · rw [e, va_up_s, va_up_s]
  · rw [va_up_n e, va_up_n e]
    exact hT x hx
theorem nxs_loop (hNf : 2 ^ 40 ≤ N) (hK : KS sh z) (hN : WN R) (hW : WS R) (hB : BW R) (hO : OPT R T) (hTb : ∀ s, s < nn R 1 → T s ≤ 10000) (hA : AG (d0.1 (z + 243)) R) (hc : c < 60) : ∀ (m i fu : Nat) (d : Dt), i + m = nn R 1 → m < fu → XF z d0 d → TV2 z R d T → (∀ s, s < i → ¬ lvS R T c s) → Rn (f_X12_nextStreet_2 N sh fu (z + 242) (nI c) (nI i) d) (fun r => XF z d0 r.2 ∧ TV2 z R r.2 T ∧ ((r.1 = -1 ∧ ¬ ∃ s, lvS R T c s) ∨ (r.1 = nI (lvN R T c) ∧ ∃ s, lvS R T c s)))
  | 0, i, fu, d, hi, hf, hM, hT, hl => by
    obtain ⟨fu, rfl⟩ : ∃ q, fu = q + 1 := ⟨fu - 1, by omega⟩
    show Rn (g_X12_nextStreet_2 N sh (f_X12_nextStreet_2 N sh fu) (z + 242) (nI c) (nI i) d) _
    have n1 := hN.2.1
    unfold g_X12_nextStreet_2
    refine rdg hK (hM.ag hA) 1 rfl (by decide) ?_
    rw [n1.1]
    refine rn_t ((nI_leI (by omega) (by omega)).mpr (by omega)) ?_
    exact rn_some ⟨hM, hT, Or.inl ⟨rfl, fun ⟨s, hs⟩ => hl s (by have := hs.1; omega) hs⟩⟩
  | m + 1, i, fu, d, hi, hf, hM, hT, hl => by
    obtain ⟨fu, rfl⟩ : ∃ q, fu = q + 1 := ⟨fu - 1, by omega⟩
    have ih := nxs_loop hNf hK hN hW hB hO hTb hA hc m (i + 1) fu
    show Rn (g_X12_nextStreet_2 N sh (f_X12_nextStreet_2 N sh fu) (z + 242) (nI c) (nI i) d) _
    have n0 := hN.1.2
    have n1 := hN.2.1
    have his : i < nn R 1 := by omega
    have hT9 := ks_a hK 251 0 150 rfl
    have hb := hTb i his
    have skip : ¬ lvS R T c i → ∀ d, XF z d0 d → TV2 z R d T → Rn (f_X12_nextStreet_2 N sh fu (z + 242) (nI c) (nI (i + 1)) d) (fun r => XF z d0 r.2 ∧ TV2 z R r.2 T ∧ ((r.1 = -1 ∧ ¬ ∃ s, lvS R T c s) ∨ (r.1 = nI (lvN R T c) ∧ ∃ s, lvS R T c s))) := fun hn d hM hT => ih d (by omega) (by omega) hM hT (fun s hs => by
      by_cases e : s = i
      · rw [e]
        exact hn
      · exact hl s (by omega))
    unfold g_X12_nextStreet_2
    refine rdg hK (hM.ag hA) 1 rfl (by decide) ?_
    rw [n1.1]
    refine rn_f (nI_ge his (by omega)) ?_
    refine r_gP hK 242 12 14 251 rfl (by decide) ?_
    refine rn_eq (q_aT hT9 i rfl (by omega) (by decide)) ?_
    rw [hT i his]
    have sk31 : ¬ lvS R T c i → Rn (f_X12_nextStreet_31 N sh (f_X12_nextStreet_2 N sh fu) (z + 242) (nI c) (nI i) (-1) d) (fun r => XF z d0 r.2 ∧ TV2 z R r.2 T ∧ ((r.1 = -1 ∧ ¬ ∃ s, lvS R T c s) ∨ (r.1 = nI (lvN R T c) ∧ ∃ s, lvS R T c s))) := fun hn => by
      unfold f_X12_nextStreet_31 f_X12_nextStreet_91
      rw [nI_1]
      exact rn_t rfl (skip hn d hM hT)
    refine rn_ite (fun h1 => ?_) (fun h1 => ?_)
    · refine sk31 (fun q => ?_)
      exact absurd h1 (nI_nle q.2.1 (by omega))
    · have h1 : 0 < T i := by
        rcases Nat.eq_zero_or_pos (T i) with q | q
        · rw [q] at h1
          exact absurd (by decide) h1
        · exact q
      refine rn_eq (m_leads hK (hM.ag hA) (by omega)) ?_
      rw [ldv_bw hW hN hB his (hO i his h1) hc]
      by_cases hin : eA R i = c ∨ eB R i = c
      · rw [if_pos hin]
        have ho := oth_lt (c := c) hW hN his
        unfold f_X12_nextStreet_31
        refine rn_f (nI_m1 (by omega)) ?_
        refine r_gP hK 242 12 14 251 rfl (by decide) ?_
        refine rn_eq (q_aT hT9 i rfl (by omega) (by decide)) ?_
        obtain ⟨w, hw⟩ : ∃ w, T i = w + 1 := ⟨T i - 1, by omega⟩
        rw [hT i his, hw, nI_pred]
        refine rn_eq (q_sI hT9 i rfl (by omega) (by decide)) ?_
        refine r_gP hK 242 12 14 251 rfl (by decide) ?_
        have hM1 := hM.tr (XF.w (k := i) (v := nI w))
        have hT1 : TV2 z R (wI d (z + 251) i (nI w)) (dec1 T i) := tv_w hT (by unfold dec1; rw [hw]; rfl)
        have hTM1 : TM z R (wI d (z + 251) i (nI w)) (dec1 T i) := fun s hs => ⟨hT1 s hs, by
          have := hTb s hs
          unfold dec1 va_up
          split <;> omega⟩
        refine rn_bind (m_follows (c := oth R i c) hNf hK hN hW (hM1.ag hA) hTM1 (by omega)) (fun d2 hd2 => ?_)
        refine r_gP hK 242 12 14 251 rfl (by decide) ?_
        have hM2 := hM1.tr hd2.1.xf
        have hTM2 := hd2.1.tm hTM1
        refine rn_bind (m_hasMore (by omega) hK hN hW (hM2.ag hA) hTM2 hd2.2) (fun v hv => ?_)
        have hback : ∀ t : Int32, (t = 0 ∧ ¬ lvS R T c i) ∨ (t = 1 ∧ lvS R T c i) → Rn (f_X12_nextStreet_72 N sh (f_X12_nextStreet_2 N sh fu) (z + 242) (nI c) (nI i) t d2) (fun r => XF z d0 r.2 ∧ TV2 z R r.2 T ∧ ((r.1 = -1 ∧ ¬ ∃ s, lvS R T c s) ∨ (r.1 = nI (lvN R T c) ∧ ∃ s, lvS R T c s))) := fun t ht => by
          unfold f_X12_nextStreet_72 f_X12_nextStreet_91 f_X12_nextStreet_89
          refine r_gP hK 242 12 14 251 rfl (by decide) ?_
          refine rn_eq (q_aT hT9 i rfl (by omega) (by decide)) ?_
          have e1 : d2.1 (z + 251) i = nI w := by
            rw [hd2.1.2 (z + 251) (by omega), wI_s, va_up_s]
          rw [e1, nI_1, nI_1]
          refine rn_eq (q_sI hT9 i rfl (by omega) (by decide)) ?_
          have hM3 := hM2.tr (XF.w (k := i) (v := nI (w + 1)))
          have hT3 : TV2 z R (wI d2 (z + 251) i (nI (w + 1))) T := tv_w (T := dec1 T i) (fun s hs => (hTM2 s hs).1) (by
            funext x
            unfold dec1
            by_cases ex : x = i
            · rw [ex, va_up_s, hw]
            · rw [va_up_n ex, va_up_n ex])
          rcases ht with ⟨rfl, ht⟩ | ⟨rfl, ht⟩
          · exact rn_t rfl (skip ht _ hM3 hT3)
          · refine rn_f (by decide) ?_
            refine rn_some ⟨hM3, hT3, Or.inr ⟨?_, i, ht⟩⟩
            rw [lvN_eq ht hl]
        rcases hv with ⟨rfl, hv⟩ | ⟨rfl, hv⟩
        · refine rn_f (fun q => q rfl) ?_
          exact hback 1 (Or.inr ⟨rfl, his, h1, hin, hv⟩)
        · refine rn_t (by decide) ?_
          exact hback 0 (Or.inl ⟨rfl, fun q => hv q.2.2.2⟩)
      · rw [if_neg hin]
        exact sk31 (fun q => hin q.2.2.1)
theorem m_nextS (hNf : 2 ^ 40 ≤ N) (hK : KS sh z) (hN : WN R) (hW : WS R) (hB : BW R) (hO : OPT R T) (hTb : ∀ s, s < nn R 1 → T s ≤ 10000) (hA : AG (d.1 (z + 243)) R) (hc : c < 60) (hT : TV2 z R d T) : Rn (f_X12_nextStreet N sh (z + 242) (nI c) d) (fun r => XF z d r.2 ∧ TV2 z R r.2 T ∧ ((r.1 = -1 ∧ ¬ ∃ s, lvS R T c s) ∨ (r.1 = nI (lvN R T c) ∧ ∃ s, lvS R T c s))) := by
  have n1 := hN.2.1.2
  unfold f_X12_nextStreet
  refine rn_t (ks_o hK 242 12 rfl) ?_
  exact nxs_loop (d0 := d) hNf hK hN hW hB hO hTb hA hc (nn R 1) 0 N d (by omega) (by omega) XF.rf hT (fun s hs => absurd hs (Nat.not_lt_zero s))
/-- the DRIVES so far -/
def DRl (z : Nat) (d : Dt) (l : List (Nat × Nat × Nat)) : Prop := d.1 (z + 242) 24 = nI l.length ∧ ∀ i, i < l.length → i < 2000 → d.1 (z + 257) i = nI (l.getD i (0, 0, 0)).1 ∧ d.1 (z + 258) i = nI (l.getD i (0, 0, 0)).2.1 ∧ d.1 (z + 259) i = nI (l.getD i (0, 0, 0)).2.2
def DF (z : Nat) (d d' : Dt) : Prop := d'.2 = d.2 ∧ (∀ a, a ≠ z + 242 → a ≠ z + 257 → a ≠ z + 258 → a ≠ z + 259 → d'.1 a = d.1 a) ∧ ∀ k, k ≠ 24 → d'.1 (z + 242) k = d.1 (z + 242) k
theorem getD_app {l : List (Nat × Nat × Nat)} {x e : Nat × Nat × Nat} {i : Nat} (hi : i < l.length) : (l ++ [x]).getD i e = l.getD i e := by
  simp [List.getD, List.getElem?_append_left hi]
theorem getD_last {l : List (Nat × Nat × Nat)} {x e : Nat × Nat × Nat} : (l ++ [x]).getD l.length e = x := by
  simp [List.getD]
theorem m_drive {l : List (Nat × Nat × Nat)} {v : Int32} (hK : KS sh z) (hL : l.length < 2 ^ 30) (hD : DRl z d l) : Rn (f_X12_drive N sh (z + 242) (nI s) (nI c) v d) (fun d' => DF z d d' ∧ DRl z d' (l ++ [(s, c, if v = 0 then 0 else 1)])) := by
  have hlen : ∀ x : Nat × Nat × Nat, (l ++ [x]).length = l.length + 1 := fun x => by simp
  have h48 : ∀ (x : Nat × Nat × Nat) (d1 : Dt), DF z d d1 → d1.1 (z + 242) 24 = nI l.length → (∀ i, i < l.length + 1 → i < 2000 → d1.1 (z + 257) i = nI ((l ++ [x]).getD i (0, 0, 0)).1 ∧ d1.1 (z + 258) i = nI ((l ++ [x]).getD i (0, 0, 0)).2.1 ∧ d1.1 (z + 259) i = nI ((l ++ [x]).getD i (0, 0, 0)).2.2) → Rn (f_X12_drive_48 N sh (z + 242) d1) (fun d' => DF z d d' ∧ DRl z d' (l ++ [x])) := fun x d1 hf h24 hr => by
    unfold f_X12_drive_48
    refine r_gI hK (i := 242) (c := 12) rfl ?_
    refine r_pI hK (i := 242) (c := 12) rfl ?_
    rw [h24, nI_1]
    refine rn_some ⟨⟨hf.1, fun a q1 q2 q3 q4 => ?_, fun k q => ?_⟩, ?_, fun i hi hi2 => ?_⟩
    · rw [wI_n q1]
      exact hf.2.1 a q1 q2 q3 q4
    · rw [wI_s, va_up_n q]
      exact hf.2.2 k q
    · rw [wI_s, va_up_s, hlen]
    · rw [hlen] at hi
      rw [wI_n (by omega), wI_n (by omega), wI_n (by omega)]
      exact hr i hi hi2
  unfold f_X12_drive
  refine rn_t (ks_o hK 242 12 rfl) ?_
  refine r_gI hK (i := 242) (c := 12) rfl ?_
  rw [hD.1]
  refine rn_ite (fun h1 => ?_) (fun h1 => ?_)
  · have h1 := (nI_leI (a := 2000) (by decide) (by omega)).mp h1
    refine h48 _ d ⟨rfl, fun _ _ _ _ _ => rfl, fun _ _ => rfl⟩ hD.1 (fun i hi hi2 => ?_)
    rw [getD_app (by omega)]
    exact hD.2 i (by omega) hi2
  · have h1 : l.length < 2000 := Nat.lt_of_not_le (fun q => h1 ((nI_leI (a := 2000) (by decide) (by omega)).mpr q))
    have e24 : ∀ (d1 : Dt) (i k : Nat) (w : Int32), 243 ≤ i → (wI d1 (z + i) k w).1 (z + 242) = d1.1 (z + 242) := fun d1 i k w hi => wI_n (by omega)
    refine r_gP hK 242 12 25 257 rfl (by decide) ?_
    refine r_gI hK (i := 242) (c := 12) rfl ?_
    rw [hD.1]
    refine rn_eq (q_sI (ks_a hK 257 0 2000 rfl) l.length rfl h1 (by decide)) ?_
    refine r_gP hK 242 12 26 258 rfl (by decide) ?_
    refine r_gI hK (i := 242) (c := 12) rfl ?_
    rw [e24 _ _ _ _ (by decide), hD.1]
    refine rn_eq (q_sI (ks_a hK 258 0 2000 rfl) l.length rfl h1 (by decide)) ?_
    refine r_gP hK 242 12 27 259 rfl (by decide) ?_
    refine r_gI hK (i := 242) (c := 12) rfl ?_
    rw [e24 _ _ _ _ (by decide), e24 _ _ _ _ (by decide), hD.1]
    have fin : ∀ w : Nat, Rn (f_X12_drive_47 N sh (z + 242) (z + 259) (nI l.length) (nI w) (wI (wI d (z + 257) l.length (nI s)) (z + 258) l.length (nI c))) (fun d' => DF z d d' ∧ DRl z d' (l ++ [(s, c, w)])) := fun w => by
      unfold f_X12_drive_47
      refine rn_eq (q_sI (ks_a hK 259 0 2000 rfl) l.length rfl h1 (by decide)) ?_
      refine h48 (s, c, w) _ ⟨rfl, fun a q1 q2 q3 q4 => by rw [wI_n q4, wI_n q3, wI_n q2], fun k q => by rw [wI_n (by omega), wI_n (by omega), wI_n (by omega)]⟩ ?_ (fun i hi hi2 => ?_)
      · rw [wI_n (by omega), wI_n (by omega), wI_n (by omega)]
        exact hD.1
      · have x7 : (wI (wI (wI d (z + 257) l.length (nI s)) (z + 258) l.length (nI c)) (z + 259) l.length (nI w)).1 (z + 257) = va_up (d.1 (z + 257)) l.length (nI s) := by
          rw [wI_n (by omega), wI_n (by omega), wI_s]
        have x8 : (wI (wI (wI d (z + 257) l.length (nI s)) (z + 258) l.length (nI c)) (z + 259) l.length (nI w)).1 (z + 258) = va_up (d.1 (z + 258)) l.length (nI c) := by
          rw [wI_n (by omega), wI_s, wI_n (by omega)]
        have x9 : (wI (wI (wI d (z + 257) l.length (nI s)) (z + 258) l.length (nI c)) (z + 259) l.length (nI w)).1 (z + 259) = va_up (d.1 (z + 259)) l.length (nI w) := by
          rw [wI_s, wI_n (by omega), wI_n (by omega)]
        rw [x7, x8, x9]
        by_cases e : i = l.length
        · rw [e, va_up_s, va_up_s, va_up_s, getD_last]
          exact ⟨rfl, rfl, rfl⟩
        · rw [va_up_n e, va_up_n e, va_up_n e, getD_app (by omega)]
          exact hD.2 i (by omega) hi2
    refine rn_ite (fun h2 => ?_) (fun h2 => ?_)
    · rw [if_pos h2]
      exact fin 0
    · rw [if_neg h2]
      exact fin 1
end DR
/-! 80.drvr2.lean.txt -/
section DR2
variable {Q : Dt → Prop} {sh : Sh} {d d0 d' : Dt} {z : Nat} {R K : Nat → Int32} {N c s k : Nat} {T D : Nat → Nat}
/-- what drivesAll() touches -/
def DVF (z : Nat) (d d' : Dt) : Prop := d'.2 = d.2 ∧ (∀ a, a ≠ z + 242 → a ≠ z + 251 → a ≠ z + 253 → a ≠ z + 257 → a ≠ z + 258 → a ≠ z + 259 → a ≠ z + 260 → d'.1 a = d.1 a) ∧ ∀ k, k ≠ 24 → d'.1 (z + 242) k = d.1 (z + 242) k
theorem DVF.rf : DVF z d d := ⟨rfl, fun _ _ _ _ _ _ _ _ => rfl, fun _ _ => rfl⟩
theorem DVF.tr {d1 d2 : Dt} (h1 : DVF z d d1) (h2 : DVF z d1 d2) : DVF z d d2 := ⟨h2.1.trans h1.1, fun a q1 q2 q3 q4 q5 q6 q7 => (h2.2.1 a q1 q2 q3 q4 q5 q6 q7).trans (h1.2.1 a q1 q2 q3 q4 q5 q6 q7), fun k q => (h2.2.2 k q).trans (h1.2.2 k q)⟩
theorem XF.dv (h : XF z d d') : DVF z d d' := ⟨h.1, fun a _ q1 q2 _ _ _ _ => h.2 a q1 q2, fun k _ => by rw [h.2 (z + 242) (by omega) (by omega)]⟩
theorem DF.dv (h : DF z d d') : DVF z d d' := ⟨h.1, fun a q1 _ _ q4 q5 q6 _ => h.2.1 a q1 q4 q5 q6, h.2.2⟩
theorem DVF.w {v : Int32} : DVF z d (wI d (z + 260) k v) := ⟨rfl, fun a _ _ _ _ _ _ q => wI_n q, fun j _ => by rw [wI_n (by omega)]⟩
theorem DVF.ag (h : DVF z d d') (hA : AG (d.1 (z + 243)) R) : AG (d'.1 (z + 243)) R := by
  rw [h.2.1 (z + 243) (by omega) (by omega) (by omega) (by omega) (by omega) (by omega) (by omega)]
  exact hA
theorem smN_0 {f : Nat → Nat} : ∀ n, smN f n = 0 → ∀ i, i < n → f i = 0
  | 0, h, i, hi => absurd hi (Nat.not_lt_zero i)
  | n + 1, h, i, hi => by
    have h : smN f n + f n = 0 := h
    by_cases e : i = n
    · rw [e]
      omega
    · exact smN_0 n (by omega) i (by omega)
theorem dec_sm (hs : s < k) (hp : 0 < T s) : smN (dec1 T s) k + 1 = smN T k := by
  have := smN_up (f := T) (c := s) (v := T s - 1) k hs
  unfold dec1
  omega
theorem dec_le {x : Nat} : dec1 T s x ≤ T x := by
  unfold dec1 va_up
  split
  · rename_i h
    rw [h]
    omega
  · exact Nat.le_refl _
theorem OPT.dec (h : OPT R T) : OPT R (dec1 T s) := fun x hx hp => h x hx (Nat.lt_of_lt_of_le hp dec_le)
theorem drv_loop (hNf : 2 ^ 40 ≤ N) (hK : KS sh z) (hN : WN R) (hW : WS R) (hB : BW R) (hA : AG (d0.1 (z + 243)) R) : ∀ (k fu c : Nat) (d : Dt) (T D E : Nat → Nat) (l : List (Nat × Nat × Nat)) (l2 : Int32), k < fu → smN T (nn R 1) ≤ k → OPT R T → (∀ s, s < nn R 1 → T s ≤ 10000) → c < 60 → DVF z d0 d → TV2 z R d T → DRl z d l → l.length + k < 2 ^ 30 → (∀ s, s < nn R 1 → d.1 (z + 260) s = nI (E s) ∧ E s + k < 2 ^ 30 ∧ (R (16 + 9 * s + 4) = 0 → D s = nn R (16 + 9 * s + 3) - E s)) → ((l2 = -1 ∧ ¬ ∃ s, lvS R T c s) ∨ (l2 = nI (lvN R T c) ∧ ∃ s, lvS R T c s)) → Rn (f_X12_drivesAll_8 N sh fu (z + 242) (nI c) l2 d) (fun d' => DVF z d0 d' ∧ DRl z d' (l ++ drA R k T c D))
  | k, 0, c, d, T, D, E, l, l2, hf, hk, hO, hTb, hc, hM, hT, hD, hL, hE, h2 => absurd hf (Nat.not_lt_zero k)
  | 0, fu + 1, c, d, T, D, E, l, l2, hf, hk, hO, hTb, hc, hM, hT, hD, hL, hE, h2 => by
    show Rn (g_X12_drivesAll_8 N sh (f_X12_drivesAll_8 N sh fu) (z + 242) (nI c) l2 d) _
    unfold g_X12_drivesAll_8
    have hno : ¬ ∃ s, lvS R T c s := fun ⟨s, hs⟩ => by
      have := smN_0 (f := T) (nn R 1) (by omega) s hs.1
      have := hs.2.1
      omega
    rcases h2 with ⟨e, _⟩ | ⟨_, q⟩
    · refine rn_t e ?_
      refine rn_some ⟨hM, ?_⟩
      show DRl z d (l ++ [])
      rw [List.append_nil]
      exact hD
    · exact absurd q hno
  | k + 1, fu + 1, c, d, T, D, E, l, l2, hf, hk, hO, hTb, hc, hM, hT, hD, hL, hE, h2 => by
    have ih := drv_loop hNf hK hN hW hB hA k fu
    show Rn (g_X12_drivesAll_8 N sh (f_X12_drivesAll_8 N sh fu) (z + 242) (nI c) l2 d) _
    have n0 := hN.1.2
    have n1 := hN.2.1.2
    unfold g_X12_drivesAll_8 drA
    rcases h2 with ⟨e, q⟩ | ⟨e, q⟩
    · refine rn_t e ?_
      rw [ite_n q]
      refine rn_some ⟨hM, ?_⟩
      rw [List.append_nil]
      exact hD
    · rw [ite_p q]
      obtain ⟨hs, -⟩ := lvN_ok q
      generalize lvN R T c = s at e hs
      obtain ⟨s1, s2, s3, s4⟩ := hs
      have so := hO s s1 s2
      rw [e]
      refine rn_f (nI_m1 (by omega)) ?_
      have hA9 := hM.ag hA
      obtain ⟨-, -, -, -, e3, e32⟩ := hW s s1
      obtain ⟨en, en2, en3⟩ := hE s s1
      have en3 := en3 so
      refine r_gP hK 242 12 28 260 rfl (by decide) ?_
      refine rn_eq (q_aT (ks_a hK 260 0 150 rfl) s rfl (by omega) (by decide)) ?_
      refine rds hK hA9 3 (by omega) (by decide) rfl ?_
      rw [en, e3]
      have fin : ∀ v : Int32, (if v = 0 then 0 else 1) = (if 0 < D s then 1 else 0) → Rn (f_X12_drivesAll_42 N sh (f_X12_drivesAll_8 N sh fu) (z + 242) (nI c) (nI s) (z + 242) (nI s) (nI c) v d) (fun d' => DVF z d0 d' ∧ DRl z d' (l ++ (s, c, if 0 < D s then 1 else 0) :: drA R k (dec1 T s) (oth R s c) (dec1 D s))) := fun v hv => by
        unfold f_X12_drivesAll_42
        refine rn_bind (m_drive (s := s) (c := c) (v := v) hK (by omega) hD) (fun d1 hd1 => ?_)
        rw [hv] at hd1
        have hM1 := hM.tr hd1.1.dv
        have r260 : d1.1 (z + 260) = d.1 (z + 260) := hd1.1.2.1 _ (by omega) (by omega) (by omega) (by omega)
        have r251 : d1.1 (z + 251) = d.1 (z + 251) := hd1.1.2.1 _ (by omega) (by omega) (by omega) (by omega)
        refine r_gP hK 242 12 28 260 rfl (by decide) ?_
        refine rn_eq (q_aT (ks_a hK 260 0 150 rfl) s rfl (by omega) (by decide)) ?_
        rw [r260, en, nI_1]
        refine rn_eq (q_sI (ks_a hK 260 0 150 rfl) s rfl (by omega) (by decide)) ?_
        refine r_gP hK 242 12 14 251 rfl (by decide) ?_
        refine rn_eq (q_aT (ks_a hK 251 0 150 rfl) s rfl (by omega) (by decide)) ?_
        have e251 : (wI d1 (z + 260) s (nI (E s + 1))).1 (z + 251) s = nI (T s) := by
          rw [wI_n (by omega), r251]
          exact hT s s1
        obtain ⟨w, hw⟩ : ∃ w, T s = w + 1 := ⟨T s - 1, by omega⟩
        rw [e251, hw, nI_pred]
        refine rn_eq (q_sI (ks_a hK 251 0 150 rfl) s rfl (by omega) (by decide)) ?_
        have hM2 := hM1.tr ((DVF.w (k := s) (v := nI (E s + 1))).tr (XF.w (k := s) (v := nI w)).dv)
        have hT2 : TV2 z R (wI (wI d1 (z + 260) s (nI (E s + 1))) (z + 251) s (nI w)) (dec1 T s) := tv_w (T := T) (fun x hx => by
          rw [wI_n (by omega), r251]
          exact hT x hx) (by unfold dec1; rw [hw]; rfl)
        refine rn_eq (m_leads hK (hM2.ag hA) (by omega)) ?_
        rw [ldv_bw hW hN hB s1 so hc, if_pos s3]
        have ho := oth_lt (c := c) hW hN s1
        have hTb2 : ∀ x, x < nn R 1 → dec1 T s x ≤ 10000 := fun x hx => Nat.le_trans dec_le (hTb x hx)
        refine rn_bind (m_nextS (c := oth R s c) hNf hK hN hW hB hO.dec hTb2 (hM2.ag hA) (by omega) hT2) (fun r hr => ?_)
        obtain ⟨x1, x2, x3⟩ := hr
        have hsm := dec_sm (T := T) s1 s2
        have := ih (oth R s c) r.2 (dec1 T s) (dec1 D s) (va_up E s (E s + 1)) (l ++ [(s, c, if 0 < D s then 1 else 0)]) r.1 (by omega) (by omega) hO.dec hTb2 (by omega) (hM2.tr x1.dv) x2 ⟨?_, fun i hi hi2 => ?_⟩ (by simp; omega) (fun x hx => ?_) x3
        · refine rn_mono this (fun d' hd' => ⟨hd'.1, ?_⟩)
          have h9 := hd'.2
          rw [List.append_assoc] at h9
          exact h9
        · rw [x1.2 (z + 242) (by omega) (by omega), wI_n (by omega), wI_n (by omega)]
          exact hd1.2.1
        · rw [x1.2 (z + 257) (by omega) (by omega), wI_n (by omega), wI_n (by omega), x1.2 (z + 258) (by omega) (by omega), wI_n (by omega), wI_n (by omega), x1.2 (z + 259) (by omega) (by omega), wI_n (by omega), wI_n (by omega)]
          exact hd1.2.2 i hi hi2
        · rw [x1.2 (z + 260) (by omega) (by omega), wI_n (by omega), wI_s, r260]
          obtain ⟨y1, y2, y3⟩ := hE x hx
          by_cases ex : x = s
          · subst ex
            rw [va_up_s, va_up_s]
            refine ⟨rfl, by omega, fun _ => ?_⟩
            unfold dec1
            rw [va_up_s]
            omega
          · rw [va_up_n ex, va_up_n ex]
            refine ⟨y1, by omega, fun ho9 => ?_⟩
            unfold dec1
            rw [va_up_n ex]
            exact y3 ho9
      refine rn_ite (fun h1 => ?_) (fun h1 => ?_)
      · have h1 := (nI_leI (by omega) (by omega)).mp h1
        refine fin 0 ?_
        rw [if_pos rfl, if_neg (by omega)]
      · have h1 : ¬ nn R (16 + 9 * s + 3) ≤ E s := fun q => h1 ((nI_leI (by omega) (by omega)).mpr q)
        refine fin 1 ?_
        rw [if_neg (by decide), if_pos (by omega)]
theorem m_drivesAll {E : Nat → Nat} (hNf : 2 ^ 40 ≤ N) (hK : KS sh z) (hN : WN R) (hW : WS R) (hB : BW R) (hO : OPT R T) (hTb : ∀ s, s < nn R 1 → T s ≤ 10000) (hk : smN T (nn R 1) ≤ k) (hk2 : k ≤ 2000) (hA : AG (d.1 (z + 243)) R) (hT : TV2 z R d T) (hD : DRl z d []) (hE : ∀ s, s < nn R 1 → d.1 (z + 260) s = nI (E s) ∧ E s ≤ 10000 ∧ (R (16 + 9 * s + 4) = 0 → D s = nn R (16 + 9 * s + 3) - E s)) : Rn (f_X12_drivesAll N sh (z + 242) d) (fun d' => DVF z d d' ∧ DRl z d' (drA R k T 0 D)) := by
  unfold f_X12_drivesAll
  refine rn_t (ks_o hK 242 12 rfl) ?_
  refine rn_bind (m_nextS (c := 0) hNf hK hN hW hB hO hTb hA (by decide) hT) (fun r hr => ?_)
  obtain ⟨x1, x2, x3⟩ := hr
  refine drv_loop (d0 := d) hNf hK hN hW hB hA k N 0 r.2 T D E [] r.1 (by omega) hk hO hTb (by decide) x1.dv x2 ⟨?_, fun i hi => absurd hi (Nat.not_lt_zero i)⟩ (by simp; omega) (fun s hs => ?_) x3
  · rw [x1.2 (z + 242) (by omega) (by omega)]
    exact hD.1
  · rw [x1.2 (z + 260) (by omega) (by omega)]
    obtain ⟨y1, y2, y3⟩ := hE s hs
    exact ⟨y1, by omega, y3⟩
end DR2
/-! 81.drvk.lean.txt -/
/-! the DRIVES of (A), the class -/
def vL (R : Nat → Int32) (l : List (Nat × Nat × Nat)) (c i : Nat) : Int32 := if c = 0 then nI (l.getD i (0, 0, 0)).1 else if c = 1 then nI (l.getD i (0, 0, 0)).2.1 else if c = 2 then nI (oth R (l.getD i (0, 0, 0)).1 (l.getD i (0, 0, 0)).2.1) else nI (l.getD i (0, 0, 0)).2.2
/-- the planner at work: left T, due D, at c, DRIVES l -/
def KP (s : AS) (z : Nat) (ow : Nat → Nat) (R : Nat → Int32) (T D : Nat → Nat) (c : Nat) (l : List (Nat × Nat × Nat)) (Lp L : Nat → Nat) (M : Nat → Prop) : Prop := KS s.1 z ∧ OWS ow z ∧ PL s.2 z R T ∧ s.2.1 (z + 221) 12 = nI c ∧ (∀ t, t < nn R 1 → s.2.1 (z + 233) t = nI (D t) ∧ D t < 2 ^ 30) ∧ TB s.1 s.2 z ow 222 4 l.length (vL R l) Lp ∧ (∀ c, c < 4 → Lp c ≤ 4000) ∧ WX s.1 s.2 z ow R L M
section DK
variable {s s' : AS} {sh : Sh} {d d0 d' : Dt} {z : Nat} {ow ow' : Nat → Nat} {R K : Nat → Int32} {N c t k : Nat} {T D : Nat → Nat} {l : List (Nat × Nat × Nat)} {Lp L : Nat → Nat} {M : Nat → Prop}
theorem conn_bits {x rc : Int64} (h1 : ∀ v, bit x v = true ↔ tchI R T (nn R 1) v) (h2 : ∀ v, bit rc v = true ↔ rch R T c v) : (x &&& (rc ^^^ (-1))) = 0 ↔ conn R T c := by
  have hls : ∀ v, bit (x &&& (rc ^^^ (-1))) v = true ↔ (tchI R T (nn R 1) v ∧ ¬ rch R T c v) := fun v => by
    rw [bit_and, Bool.and_eq_true, h1 v]
    refine and_congr_right (fun q => ?_)
    rw [bit_not (bit_big ((h1 v).mpr q)), ← h2 v]
    cases bit rc v <;> simp
  refine ⟨fun q s hs hp => ?_, fun q => ?_⟩
  · by_cases r9 : rch R T c (eA R s)
    · exact r9
    · have := (hls (eA R s)).mpr ⟨⟨s, hs, hp, Or.inl rfl⟩, r9⟩
      rw [q, bit_0] at this
      cases this
  · by_cases h0 : (x &&& (rc ^^^ (-1))) = 0
    · exact h0
    · obtain ⟨v, _, v1, _⟩ := bit_ex h0
      obtain ⟨⟨s, w2, w3, w4⟩, w1⟩ := (hls v).mp v1
      have r9 := q s w2 w3
      rcases w4 with w4 | w4
      · rw [w4] at r9
        exact absurd r9 w1
      · exact absurd (rch_step r9 ⟨s, w2, w3, Or.inl ⟨rfl, w4⟩⟩) w1
theorem pl_w {n : Nat} {T' : Nat → Nat} (hP : PL d z R T) (h : T' = va_up T t n) (hn : n < 2 ^ 30) : PL (wI d (z + 232) t (nI n)) z R T' := by
  refine hP.pf (PF.w (by omega)) (fun x hx => ?_)
  rw [wI_s, h]
  by_cases e : x = t
  · rw [e, va_up_s, va_up_s]
    exact ⟨rfl, hn⟩
  · rw [va_up_n e, va_up_n e]
    exact ⟨(hP.2 x hx).2.2.1, (hP.2 x hx).2.2.2⟩
theorem leave_loop (hN2 : 300 ≤ N) (hK : KS sh z) (hN : WN R) (hW : WS R) (hc : c < 60) : ∀ (m i fu : Nat) (d : Dt), i + m = nn R 1 → m < fu → PF z d0 d → PL d z R T → d.1 (z + 221) 12 = nI c → (∀ s, s < i → ¬ lvS R T c s) → Rn (f_X5_leave_2 N sh fu (z + 221) (nI i) d) (fun r => PF z d0 r.2 ∧ ((r.1 = -1 ∧ (¬ ∃ s, lvS R T c s) ∧ PL r.2 z R T) ∨ (r.1 = nI (lvN R T c) ∧ (∃ s, lvS R T c s) ∧ PL r.2 z R (dec1 T (lvN R T c)))))
  | 0, i, fu, d, hi, hf, hM, hP, hpl, hl => by
    obtain ⟨fu, rfl⟩ : ∃ q, fu = q + 1 := ⟨fu - 1, by omega⟩
    show Rn (g_X5_leave_2 N sh (f_X5_leave_2 N sh fu) (z + 221) (nI i) d) _
    have n1 := hN.2.1.2
    unfold g_X5_leave_2
    refine r_gI hK (i := 221) (c := 5) rfl ?_
    rw [hP.1]
    refine rn_t ((nI_leI (by omega) (by omega)).mpr (by omega)) ?_
    exact rn_some ⟨hM, Or.inl ⟨rfl, fun ⟨s, hs⟩ => hl s (by have := hs.1; omega) hs, hP⟩⟩
  | m + 1, i, fu, d, hi, hf, hM, hP, hpl, hl => by
    obtain ⟨fu, rfl⟩ : ∃ q, fu = q + 1 := ⟨fu - 1, by omega⟩
    have ih := leave_loop hN2 hK hN hW hc m (i + 1) fu
    show Rn (g_X5_leave_2 N sh (f_X5_leave_2 N sh fu) (z + 221) (nI i) d) _
    have n0 := hN.1.2
    have n1 := hN.2.1.2
    have his : i < nn R 1 := by omega
    obtain ⟨e7, a2, e8, b2, hne⟩ := ws_e hW hN his
    obtain ⟨pa, pb, pt, pt2⟩ := hP.2 i his
    have h2 := ks_a hK 232 0 150 rfl
    have skip : ¬ lvS R T c i → ∀ d, PF z d0 d → PL d z R T → d.1 (z + 221) 12 = nI c → Rn (f_X5_leave_2 N sh fu (z + 221) (nI (i + 1)) d) (fun r => PF z d0 r.2 ∧ ((r.1 = -1 ∧ (¬ ∃ s, lvS R T c s) ∧ PL r.2 z R T) ∨ (r.1 = nI (lvN R T c) ∧ (∃ s, lvS R T c s) ∧ PL r.2 z R (dec1 T (lvN R T c))))) := fun hn d hM hP hpl => ih d (by omega) (by omega) hM hP hpl (fun s hs => by
      by_cases e : s = i
      · rw [e]
        exact hn
      · exact hl s (by omega))
    have h45 : 0 < T i → (eA R i = c ∨ eB R i = c) → Rn (f_X5_leave_45 N sh (f_X5_leave_2 N sh fu) (z + 221) (nI i) d) (fun r => PF z d0 r.2 ∧ ((r.1 = -1 ∧ (¬ ∃ s, lvS R T c s) ∧ PL r.2 z R T) ∨ (r.1 = nI (lvN R T c) ∧ (∃ s, lvS R T c s) ∧ PL r.2 z R (dec1 T (lvN R T c))))) := fun h1 hin => by
      obtain ⟨w, hw⟩ : ∃ w, T i = w + 1 := ⟨T i - 1, by omega⟩
      unfold f_X5_leave_45
      refine r_gP hK 221 5 9 232 rfl (by decide) ?_
      refine rn_eq (q_aT h2 i rfl (by omega) (by decide)) ?_
      rw [pt, hw, nI_pred]
      refine rn_eq (q_sI h2 i rfl (by omega) (by decide)) ?_
      have hP1 : PL (wI d (z + 232) i (nI w)) z R (dec1 T i) := pl_w hP (by unfold dec1; rw [hw]; rfl) (by omega)
      refine rn_bind (k_look hN2 hK hN hW hP1) (fun r hr => ?_)
      obtain ⟨n9, l1, l2⟩ := hr
      have hM1 := hM.tr ((PF.w (i := 232) (k := i) (v := nI w) (by omega)).tr n9.pf)
      have hP2 : PL r.2 z R (dec1 T i) := hP1.pf n9.pf (fun s hs => by rw [n9.1]; exact ⟨(hP1.2 s hs).2.2.1, (hP1.2 s hs).2.2.2⟩)
      have hpl2 : r.2.1 (z + 221) 12 = nI c := by
        rw [n9.1, wI_n (by omega)]
        exact hpl
      have ho := oth_lt (c := c) hW hN his
      have h90 : Rn (f_X5_leave_90 N sh (f_X5_leave_2 N sh fu) (z + 221) (nI i) r.1 (z + 221) (nI (oth R i c)) r.2) (fun r => PF z d0 r.2 ∧ ((r.1 = -1 ∧ (¬ ∃ s, lvS R T c s) ∧ PL r.2 z R T) ∨ (r.1 = nI (lvN R T c) ∧ (∃ s, lvS R T c s) ∧ PL r.2 z R (dec1 T (lvN R T c))))) := by
        unfold f_X5_leave_90 f_X5_leave_115 f_X5_leave_103
        refine rn_bind (k_reached (c := oth R i c) (T := dec1 T i) hN2 hK hN hW (by omega) l1) (fun rc hrc => ?_)
        have hcb := conn_bits (c := oth R i c) l2 hrc
        refine rn_ite (fun q => ?_) (fun q => ?_)
        · have q : ¬ lvS R T c i := fun r9 => q (cmp0.mpr (hcb.mpr r9.2.2.2))
          refine r_gP hK 221 5 9 232 rfl (by decide) ?_
          refine rn_eq (q_aT h2 i rfl (by omega) (by decide)) ?_
          have e1 : r.2.1 (z + 232) i = nI w := by
            rw [n9.1, wI_s, va_up_s]
          rw [e1, nI_1, nI_1]
          refine rn_eq (q_sI h2 i rfl (by omega) (by decide)) ?_
          refine skip q _ (hM1.tr (PF.w (by omega))) (pl_w hP2 ?_ (by omega)) (by rw [wI_n (by omega)]; exact hpl2)
          funext x
          unfold dec1
          by_cases ex : x = i
          · rw [ex, va_up_s, hw]
          · rw [va_up_n ex, va_up_n ex]
        · have q : lvS R T c i := ⟨his, h1, hin, hcb.mp (cmp0.mp (Decidable.of_not_not q))⟩
          refine rn_some ⟨hM1, Or.inr ⟨?_, ⟨i, q⟩, ?_⟩⟩
          · rw [lvN_eq q hl]
          · rw [lvN_eq q hl]
            exact hP2
      refine r_gP hK 221 5 6 230 rfl (by decide) ?_
      refine rn_eq (q_aT (ks_a hK 230 0 150 rfl) i rfl (by omega) (by decide)) ?_
      refine r_gI hK (i := 221) (c := 5) rfl ?_
      rw [(hP2.2 i his).1, hpl2]
      refine rn_ite (fun q => ?_) (fun q => ?_)
      · refine r_gP hK 221 5 6 230 rfl (by decide) ?_
        refine rn_eq (q_aT (ks_a hK 230 0 150 rfl) i rfl (by omega) (by decide)) ?_
        rw [(hP2.2 i his).1]
        have e : oth R i c = eA R i := if_neg (fun e => q (by rw [e]))
        rw [e] at h90
        exact h90
      · refine r_gP hK 221 5 7 231 rfl (by decide) ?_
        refine rn_eq (q_aT (ks_a hK 231 0 150 rfl) i rfl (by omega) (by decide)) ?_
        rw [(hP2.2 i his).2.1]
        have e : oth R i c = eB R i := if_pos (nI_inj (Decidable.of_not_not q) (by omega) (by omega))
        rw [e] at h90
        exact h90
    unfold g_X5_leave_2 f_X5_leave_115
    refine r_gI hK (i := 221) (c := 5) rfl ?_
    rw [hP.1, nI_1]
    refine rn_f (nI_ge his (by omega)) ?_
    refine r_gP hK 221 5 9 232 rfl (by decide) ?_
    refine rn_eq (q_aT h2 i rfl (by omega) (by decide)) ?_
    refine rn_ite (fun q => ?_) (fun q => ?_)
    · have q := (pl_pos hP his).mp q
      exact skip (fun r => by have := r.2.1; omega) d hM hP hpl
    · have q : 0 < T i := by
        have : ¬ T i = 0 := fun r => q ((pl_pos hP his).mpr r)
        omega
      refine r_gP hK 221 5 6 230 rfl (by decide) ?_
      refine rn_eq (q_aT (ks_a hK 230 0 150 rfl) i rfl (by omega) (by decide)) ?_
      refine r_gI hK (i := 221) (c := 5) rfl ?_
      rw [pa, hpl]
      refine rn_ite (fun q1 => ?_) (fun q1 => ?_)
      · exact h45 q (Or.inl (nI_inj q1 (by omega) (by omega)))
      · refine r_gP hK 221 5 7 231 rfl (by decide) ?_
        refine rn_eq (q_aT (ks_a hK 231 0 150 rfl) i rfl (by omega) (by decide)) ?_
        refine r_gI hK (i := 221) (c := 5) rfl ?_
        rw [pb, hpl]
        refine rn_ite (fun q2 => ?_) (fun q2 => ?_)
        · exact skip (fun r => r.2.2.1.elim (fun e => q1 (by rw [e])) (fun e => q2 (by rw [e]))) d hM hP hpl
        · exact h45 q (Or.inr (nI_inj (Decidable.of_not_not q2) (by omega) (by omega)))
theorem k_leave (hN2 : 300 ≤ N) (hK : KS sh z) (hN : WN R) (hW : WS R) (hc : c < 60) (hP : PL d z R T) (hpl : d.1 (z + 221) 12 = nI c) : Rn (f_X5_leave N sh (z + 221) d) (fun r => PF z d r.2 ∧ ((r.1 = -1 ∧ (¬ ∃ s, lvS R T c s) ∧ PL r.2 z R T) ∨ (r.1 = nI (lvN R T c) ∧ (∃ s, lvS R T c s) ∧ PL r.2 z R (dec1 T (lvN R T c))))) := by
  have n1 := hN.2.1.2
  unfold f_X5_leave
  refine rn_t (ks_o hK 221 5 rfl) ?_
  exact leave_loop (d0 := d) hN2 hK hN hW hc (nn R 1) 0 N d (by omega) (by omega) PF.rf hP hpl (fun s hs => absurd hs (Nat.not_lt_zero s))
/-- left, near, facts and partners change: all else of the planner stands -/
theorem KP.pf {T' : Nat → Nat} (h : KP s z ow R T D c l Lp L M) (hN : WN R) (hf : PF z s.2 d') (hP : PL d' z R T') : KP (s.1, d') z ow R T' D c l Lp L M := by
  obtain ⟨h1, h2, h3, h4, h5, h6, h7, h8⟩ := h
  refine ⟨h1, h2, hP, ?_, fun t ht => ?_, ?_, h7, h8.pf hN h1 h2 hf⟩
  · show d'.1 (z + 221) 12 = nI c
    rw [hf.2.1 (z + 221) (by omega) (by omega) (by omega)]
    exact h4
  · show d'.1 (z + 233) t = nI (D t) ∧ _
    rw [hf.2.1 (z + 233) (by omega) (by omega) (by omega)]
    exact h5 t ht
  · exact tb_ix (s := s) (s' := (s.1, d')) h6 h1 h2 (by decide) (FD.es (sh := s.1) (d := s.2) (hf.fd h2)) (by omega)
end DK
/-! 82.drvk2.lean.txt -/
section DK2
variable {s s' : AS} {sh : Sh} {d d0 d' : Dt} {z : Nat} {ow ow' : Nat → Nat} {R K : Nat → Int32} {N c t k : Nat} {T D : Nat → Nat} {l : List (Nat × Nat × Nat)} {Lp L : Nat → Nat} {M : Nat → Prop}
theorem wx_es {lo hi : Nat} (h : WX s.1 s.2 z ow R L M) (hN : WN R) (hK : KS s.1 z) (hw : OWS ow z) (he : ES (IX z ow lo hi) s ow s' ow') (hlo : 200 < lo) : WX s'.1 s'.2 z ow' R L M := by
  obtain ⟨h1, h2, h3, h4⟩ := h
  have n0 := hN.1.2
  have r : ∀ i, 77 ≤ i → i ≤ 200 → _ := fun i a b => es_row hK hw he (i := i) (cO_ways a (by omega)) (by omega)
  refine ⟨⟨fun c hc => ?_, fun c hc => ?_⟩, tb_ix h2 hK hw (by decide) he (by omega), ⟨fun u v hu hv => ?_, fun u v hv hu => ?_⟩, fun b hb => ⟨(h4 b hb).1, fun a ha => ?_⟩⟩
  · rw [(r 78 (by omega) (by omega)).2.2.2]
    exact h1.1 c hc
  · rw [(r 140 (by omega) (by omega)).2.2.2]
    exact h1.2 c hc
  · rw [(r (79 + u) (by omega) (by omega)).1, (r 139 (by omega) (by omega)).2.1]
    exact h3.1 u v hu hv
  · rw [(r 139 (by omega) (by omega)).2.1]
    exact h3.2 u v hv hu
  · have := (h4 b hb).1
    rw [(r (141 + b) (by omega) (by omega)).1]
    exact (h4 b hb).2 a ha
theorem PL.rows {d' : Dt} (h : PL d z R T) (h1 : d'.1 (z + 221) 8 = d.1 (z + 221) 8) (h2 : d'.1 (z + 230) = d.1 (z + 230)) (h3 : d'.1 (z + 231) = d.1 (z + 231)) (h4 : d'.1 (z + 232) = d.1 (z + 232)) : PL d' z R T := by
  unfold PL
  rw [h1, h2, h3, h4]
  exact h
set_option maxRecDepth 20000 in
theorem cO_pk {i : Nat} (h : 221 ≤ i) (h2 : i ≤ 234) (h3 : i < 224 ∨ 228 ≤ i) : (Nat.blt i 264 && Nat.beq (cOl.getD i 1) 0) = true := by
  have := List.all_eq_true.mp (show ([221, 222, 223, 228, 229, 230, 231, 232, 233, 234] : List Nat).all (fun i => Nat.blt i 264 && Nat.beq (cOl.getD i 1) 0) = true by decide +kernel) i (by
    have : i = 221 ∨ i = 222 ∨ i = 223 ∨ i = 228 ∨ i = 229 ∨ i = 230 ∨ i = 231 ∨ i = 232 ∨ i = 233 ∨ i = 234 := by omega
    simp only [List.mem_cons, List.not_mem_nil, or_false]
    exact this)
  exact this
theorem vL_app {x : Nat × Nat × Nat} {c' i' : Nat} (hi : i' < l.length) : vL R (l ++ [x]) c' i' = vL R l c' i' := by
  unfold vL
  rw [getD_app hi]
theorem k_addDrive {v : Nat} (hv : v ≤ 1) (hvD : v = 1 → 0 < D t) (hN2 : 300 ≤ N) (hN : WN R) (hW : WS R) (ht : t < nn R 1) (hc : c < 60) (hl : l.length ≤ 2000) (h : KP s z ow R T D c l Lp L M) : Rn (f_X5_addDrive N (z + 221) (nI t) (nI v) s) (fun r => (l.length = 2000 ∧ r = (-3, s)) ∨ (l.length < 2000 ∧ r.1 = 0 ∧ ∃ ow' Lp', ES (IX z ow 221 234) s ow r.2 ow' ∧ KP r.2 z ow' R T (if v = 0 then D else dec1 D t) (oth R t c) (l ++ [(t, c, v)]) Lp' L M ∧ r.2.1.1.2.2 + 2 * smN Lp 4 ≤ s.1.1.2.2 + 2 * smN Lp' 4 ∧ 4 * r.2.1.1.2.1 + smN Lp 4 ≤ 4 * s.1.1.2.1 + smN Lp' 4)) := by
  obtain ⟨hK, hw, hP, hpl, hD, hT, hLp, hX⟩ := id h
  have n0 := hN.1.2
  have n1 := hN.2.1.2
  have hk : tck 222 4 = true := by decide
  obtain ⟨e7, a2, e8, b2, hne⟩ := ws_e hW hN ht
  obtain ⟨pa, pb, pt, pt2⟩ := hP.2 t ht
  have ho := oth_lt (c := c) hW hN ht
  unfold f_X5_addDrive
  refine rn_t (ks_o hK 221 5 rfl) ?_
  refine r_gP hK 221 5 3 222 rfl (by decide) ?_
  refine r_gI hK (i := 222) (c := 8) rfl ?_
  rw [hT.1]
  by_cases hlt : l.length < 2000
  · refine rn_t (nI_lt (b := 2000) hlt (by decide)) ?_
    have h44 : Rn (f_X5_addDrive_44 N (z + 221) (nI t) (nI v) (nI (oth R t c)) s) (fun r => (l.length = 2000 ∧ r = (-3, s)) ∨ (l.length < 2000 ∧ r.1 = 0 ∧ ∃ ow' Lp', ES (IX z ow 221 234) s ow r.2 ow' ∧ KP r.2 z ow' R T (if v = 0 then D else dec1 D t) (oth R t c) (l ++ [(t, c, v)]) Lp' L M ∧ r.2.1.1.2.2 + 2 * smN Lp 4 ≤ s.1.1.2.2 + 2 * smN Lp' 4 ∧ 4 * r.2.1.1.2.1 + smN Lp 4 ≤ 4 * s.1.1.2.1 + smN Lp' 4)) := by
      unfold f_X5_addDrive_44
      refine r_gP hK 221 5 3 222 rfl (by decide) ?_
      refine rn_bind (tb_add (s := s) (by omega) hk (by omega) hK hw hT) (fun r hr => ?_)
      obtain ⟨r1, ow2, L2, e2, t2, l2, p1, p2⟩ := hr
      rw [r1]
      have e2 : ES (IX z ow 222 223) s ow r.2 ow2 := e2.mono (fun a _ ha => tx_ix hk hw ha)
      have hK2 : KS r.2.1 z := KS.es hK e2
      have hw2 : OWS ow2 z := OWS.es hw hK e2
      have er : ∀ i, 221 ≤ i → i ≤ 234 → i < 222 ∨ 228 ≤ i → r.2.2.1 (z + i) = s.2.1 (z + i) := fun i q1 q2 q3 => (es_row hK hw e2 (i := i) (cO_pk q1 q2 (by omega)) (by omega)).1
      have hX2 := wx_es hX hN hK hw e2 (by omega)
      have hP2 : PL r.2.2 z R T := hP.rows (by rw [er 221 (by omega) (by omega) (by omega)]) (er 230 (by omega) (by omega) (by omega)) (er 231 (by omega) (by omega) (by omega)) (er 232 (by omega) (by omega) (by omega))
      have mo : ∀ {d1 d2 : Dt}, FD (TX z ow2 222) d1 d2 → FD (IX z ow2 222 223) d1 d2 := fun h => h.mono (fun a ha => tx_ix hk hw2 ha)
      unfold f_X5_addDrive_52
      refine r_gP hK2 221 5 3 222 rfl (by decide) ?_
      refine rn_bind (tb_put (o := 222) (nc := 4) (c := 0) hK2 hw2 hk t2 rfl (Nat.lt_succ_self _) rfl (by decide)) (fun d1 hd1 => ?_)
      refine r_gP hK2 221 5 3 222 rfl (by decide) ?_
      refine r_gI hK2 (i := 221) (c := 5) rfl ?_
      have o221 := hw2 221 (by decide) (by decide)
      have fd1 := mo hd1.2
      rw [(fd1 (z + 221) (nix o221 (by decide) (by omega))).1, er 221 (by omega) (by omega) (by omega), hpl]
      refine rn_bind (tb_put (o := 222) (nc := 4) (c := 1) hK2 hw2 hk hd1.1 rfl (Nat.lt_succ_self _) rfl (by decide)) (fun d2 hd2 => ?_)
      refine r_gP hK2 221 5 3 222 rfl (by decide) ?_
      refine rn_bind (tb_put (o := 222) (nc := 4) (c := 2) hK2 hw2 hk hd2.1 rfl (Nat.lt_succ_self _) rfl (by decide)) (fun d3 hd3 => ?_)
      refine r_gP hK2 221 5 3 222 rfl (by decide) ?_
      have fd3 : FD (IX z ow2 222 223) r.2.2 d3 := (fd1.tr (mo hd2.2)).tr (mo hd3.2)
      have f106 : Rn (f_X5_addDrive_106 N (z + 221) (nI t) (nI v) (nI (oth R t c)) (z + 222) (nI l.length) (3 : Int32) (nI v) (r.2.1, d3)) (fun r => (l.length = 2000 ∧ r = (-3, s)) ∨ (l.length < 2000 ∧ r.1 = 0 ∧ ∃ ow' Lp', ES (IX z ow 221 234) s ow r.2 ow' ∧ KP r.2 z ow' R T (if v = 0 then D else dec1 D t) (oth R t c) (l ++ [(t, c, v)]) Lp' L M ∧ r.2.1.1.2.2 + 2 * smN Lp 4 ≤ s.1.1.2.2 + 2 * smN Lp' 4 ∧ 4 * r.2.1.1.2.1 + smN Lp 4 ≤ 4 * s.1.1.2.1 + smN Lp' 4)) := by
        unfold f_X5_addDrive_106
        refine rn_bind (tb_put (o := 222) (nc := 4) (c := 3) hK2 hw2 hk hd3.1 rfl (Nat.lt_succ_self _) rfl (by decide)) (fun d4 hd4 => ?_)
        have fd4 : FD (IX z ow2 222 223) r.2.2 d4 := fd3.tr (mo hd4.2)
        have es4 : ES (IX z ow 222 223) s ow (r.2.1, d4) ow2 := es_fd e2 fd4
        have er4 : ∀ i, 221 ≤ i → i ≤ 234 → i < 222 ∨ 228 ≤ i → d4.1 (z + i) = s.2.1 (z + i) := fun i q1 q2 q3 => (es_row hK hw es4 (i := i) (cO_pk q1 q2 (by omega)) (by omega)).1
        have hX4 : WX r.2.1 d4 z ow2 R L M := wx_es (s' := (r.2.1, d4)) hX hN hK hw es4 (by omega)
        have hT4 : TB r.2.1 d4 z ow2 222 4 (l ++ [(t, c, v)]).length (vL R (l ++ [(t, c, v)])) L2 := by
          rw [show (l ++ [(t, c, v)]).length = l.length + 1 by simp]
          refine tb_congr hd4.1 (fun c' i' hc' hi' => ?_)
          by_cases ei : i' = l.length
          · subst ei
            unfold vL
            rw [getD_last]
            have hc9 : c' = 0 ∨ c' = 1 ∨ c' = 2 ∨ c' = 3 := by omega
            rcases hc9 with rfl | rfl | rfl | rfl <;> simp
          · rw [vL_app (by omega)]
            simp [ei]
        have hL2 : ∀ c9, c9 < 4 → L2 c9 ≤ 4000 := fun c9 hc9 => by
          have := l2 c9 hc9
          have := hLp c9 hc9
          omega
        refine r_gP hK2 221 5 4 228 rfl (by decide) ?_
        refine rn_eq (q_aT (ks_a hK2 228 0 7 rfl) 1 rfl (by decide) (by decide)) ?_
        refine r_gP hK2 221 5 0 3 rfl (by decide) ?_
        refine r_gP hK2 3 1 1 4 rfl (by decide) ?_
        refine rn_eq (tb_get (o := 4) (nc := 9) (c := 6) hK2 (by decide) hX4.2.1 rfl ht rfl (by decide)) ?_
        refine rn_eq (q_sI (ks_a hK2 228 0 7 rfl) 1 rfl (by decide) (by decide)) ?_
        -- the end: the place
        have fin : ∀ (d5 : Dt) (D' : Nat → Nat), d5.2 = d4.2 → (∀ a, a ≠ z + 228 → a ≠ z + 233 → d5.1 a = d4.1 a) → (∀ x, x < nn R 1 → d5.1 (z + 233) x = nI (D' x) ∧ D' x < 2 ^ 30) → D' = (if v = 0 then D else dec1 D t) → Rn (f_X5_addDrive_155 N (z + 221) (nI (oth R t c)) (r.2.1, d5)) (fun r => (l.length = 2000 ∧ r = (-3, s)) ∨ (l.length < 2000 ∧ r.1 = 0 ∧ ∃ ow' Lp', ES (IX z ow 221 234) s ow r.2 ow' ∧ KP r.2 z ow' R T (if v = 0 then D else dec1 D t) (oth R t c) (l ++ [(t, c, v)]) Lp' L M ∧ r.2.1.1.2.2 + 2 * smN Lp 4 ≤ s.1.1.2.2 + 2 * smN Lp' 4 ∧ 4 * r.2.1.1.2.1 + smN Lp 4 ≤ 4 * s.1.1.2.1 + smN Lp' 4)) := fun d5 D' q1 q2 q3 q4 => by
          unfold f_X5_addDrive_155
          refine r_pI hK2 (i := 221) (c := 5) rfl ?_
          have o228 := hw2 228 (by decide) (by decide)
          have o233 := hw2 233 (by decide) (by decide)
          have fd5 : FD (IX z ow2 221 234) d4 (wI d5 (z + 221) 12 (nI (oth R t c))) := fun a ha => by
            have x1 : a ≠ z + 221 := fun e => ha (by rw [e]; unfold IX; rw [onr_s o221 (by decide)]; omega)
            have x2 : a ≠ z + 228 := fun e => ha (by rw [e]; unfold IX; rw [onr_s o228 (by decide)]; omega)
            have x3 : a ≠ z + 233 := fun e => ha (by rw [e]; unfold IX; rw [onr_s o233 (by decide)]; omega)
            refine ⟨by rw [wI_n x1]; exact q2 a x2 x3, ?_, ?_, ?_⟩
            · show d5.2.1 a = d4.2.1 a
              rw [q1]
            · show d5.2.2.1 a = d4.2.2.1 a
              rw [q1]
            · show d5.2.2.2 a = d4.2.2.2 a
              rw [q1]
          have es4b : ES (IX z ow 221 234) s ow (r.2.1, d4) ow2 := es4.mono (fun a _ ha => ix_mono ha (by omega) (by omega))
          have es5 : ES (IX z ow 221 234) s ow (r.2.1, wI d5 (z + 221) 12 (nI (oth R t c))) ow2 := es_fd (s' := (r.2.1, d4)) es4b fd5
          refine rn_some (Or.inr ⟨hlt, rfl, ow2, L2, es5, ⟨hK2, hw2, ?_, ?_, fun x hx => ?_, ?_, hL2, ?_⟩, p1, p2⟩)
          · refine hP.rows (d' := wI d5 (z + 221) 12 (nI (oth R t c))) ?_ ?_ ?_ ?_
            · rw [wI_s, va_up_n (by decide), q2 (z + 221) (by omega) (by omega), er4 221 (by omega) (by omega) (by omega)]
            · rw [wI_n (by omega), q2 (z + 230) (by omega) (by omega), er4 230 (by omega) (by omega) (by omega)]
            · rw [wI_n (by omega), q2 (z + 231) (by omega) (by omega), er4 231 (by omega) (by omega) (by omega)]
            · rw [wI_n (by omega), q2 (z + 232) (by omega) (by omega), er4 232 (by omega) (by omega) (by omega)]
          · show (wI d5 (z + 221) 12 (nI (oth R t c))).1 (z + 221) 12 = _
            rw [wI_s, va_up_s]
          · show (wI d5 (z + 221) 12 (nI (oth R t c))).1 (z + 233) x = _ ∧ _
            rw [wI_n (by omega), ← q4]
            exact q3 x hx
          · have fa : FD (IX z ow2 228 234) d4 d5 := fun a ha => by
              have x2 : a ≠ z + 228 := fun e => ha (by rw [e]; unfold IX; rw [onr_s o228 (by decide)]; omega)
              have x3 : a ≠ z + 233 := fun e => ha (by rw [e]; unfold IX; rw [onr_s o233 (by decide)]; omega)
              exact ⟨q2 a x2 x3, by rw [q1], by rw [q1], by rw [q1]⟩
            have ta : TB r.2.1 d5 z ow2 222 4 (l ++ [(t, c, v)]).length (vL R (l ++ [(t, c, v)])) L2 := tb_ix (s := (r.2.1, d4)) (s' := (r.2.1, d5)) hT4 hK2 hw2 hk fa.es (by omega)
            exact tb_ix (s := (r.2.1, d5)) (s' := (r.2.1, wI d5 (z + 221) 12 (nI (oth R t c)))) ta hK2 hw2 hk ((fd_ix (by decide) o221).es) (by omega)
          · exact wx_es (s' := (r.2.1, wI d5 (z + 221) 12 (nI (oth R t c)))) hX hN hK hw es5 (by omega)
        have D4 : ∀ x, x < nn R 1 → d4.1 (z + 233) x = nI (D x) ∧ D x < 2 ^ 30 := fun x hx => by
          rw [er4 233 (by omega) (by omega) (by omega)]
          exact hD x hx
        rcases Nat.lt_or_ge v 1 with hv0 | hv1
        · have ev : v = 0 := by omega
          subst ev
          refine rn_t rfl ?_
          exact fin _ D rfl (fun a x1 x2 => wI_n x1) (fun x hx => by rw [wI_n (by omega)]; exact D4 x hx) (by rw [if_pos rfl])
        · have ev : v = 1 := by omega
          subst ev
          refine rn_f (by decide) ?_
          refine r_gP hK2 221 5 4 228 rfl (by decide) ?_
          refine rn_eq (q_aT (ks_a hK2 228 0 7 rfl) 2 rfl (by decide) (by decide)) ?_
          refine rn_eq (q_sI (ks_a hK2 228 0 7 rfl) 2 rfl (by decide) (by decide)) ?_
          refine r_gP hK2 221 5 10 233 rfl (by decide) ?_
          refine rn_eq (q_aT (ks_a hK2 233 0 150 rfl) t rfl (by omega) (by decide)) ?_
          have hDp := hvD rfl
          obtain ⟨w, hw9⟩ : ∃ w, D t = w + 1 := ⟨D t - 1, by omega⟩
          have e233 : ∀ x y, (wI (wI d4 (z + 228) 1 x) (z + 228) 2 y).1 (z + 233) t = nI (D t) := fun x y => by
            rw [wI_n (by omega), wI_n (by omega)]
            exact (D4 t ht).1
          rw [e233, hw9, nI_pred]
          refine rn_eq (q_sI (ks_a hK2 233 0 150 rfl) t rfl (by omega) (by decide)) ?_
          refine fin _ (dec1 D t) rfl (fun a x1 x2 => by rw [wI_n x2, wI_n x1, wI_n x1]) (fun x hx => ?_) (by rw [if_neg (by decide)])
          rw [wI_s, wI_n (by omega), wI_n (by omega)]
          unfold dec1
          by_cases ex : x = t
          · rw [ex, va_up_s, va_up_s, hw9]
            exact ⟨rfl, by have := (D4 t ht).2; omega⟩
          · rw [va_up_n ex, va_up_n ex]
            exact D4 x hx
      rcases Nat.lt_or_ge v 1 with hv0 | hv1
      · have ev : v = 0 := by omega
        subst ev
        exact rn_t rfl f106
      · have ev : v = 1 := by omega
        subst ev
        exact rn_f (by decide) f106
    refine r_gP hK 221 5 6 230 rfl (by decide) ?_
    refine rn_eq (q_aT (ks_a hK 230 0 150 rfl) t rfl (by omega) (by decide)) ?_
    refine r_gI hK (i := 221) (c := 5) rfl ?_
    rw [pa, hpl]
    refine rn_ite (fun q => ?_) (fun q => ?_)
    · refine r_gP hK 221 5 6 230 rfl (by decide) ?_
      refine rn_eq (q_aT (ks_a hK 230 0 150 rfl) t rfl (by omega) (by decide)) ?_
      rw [pa]
      have e : oth R t c = eA R t := if_neg (fun e => q (by rw [e]))
      rw [e] at h44 ⊢
      exact h44
    · refine r_gP hK 221 5 7 231 rfl (by decide) ?_
      refine rn_eq (q_aT (ks_a hK 231 0 150 rfl) t rfl (by omega) (by decide)) ?_
      rw [pb]
      have e : oth R t c = eB R t := if_pos (nI_inj (Decidable.of_not_not q) (by omega) (by omega))
      rw [e] at h44 ⊢
      exact h44
  · refine rn_f (fun q => hlt ((nI_ltI (b := 2000) (by omega) (by decide)).mp q)) ?_
    exact rn_some (Or.inl ⟨by omega, rfl⟩)
end DK2
/-! 83.drvk3.lean.txt -/
section DK3
variable {s s' s0 : AS} {sh : Sh} {d d0 d' : Dt} {z : Nat} {ow ow' ow0 : Nat → Nat} {R K : Nat → Int32} {N c t k tot : Nat} {T D : Nat → Nat} {l : List (Nat × Nat × Nat)} {Lp L Lp0 : Nat → Nat} {M : Nat → Prop}
theorem dec_0 (h : D t = 0) : dec1 D t = D := funext fun x => by
  unfold dec1
  by_cases e : x = t
  · rw [e, va_up_s, h]
  · rw [va_up_n e]
theorem es_tr {s1 s2 : AS} {ow1 ow2 : Nat → Nat} {lo hi : Nat} (h1 : ES (IX z ow lo hi) s ow s1 ow1) (h2 : ES (IX z ow1 lo hi) s1 ow1 s2 ow2) : ES (IX z ow lo hi) s ow s2 ow2 := h1.tr h2 (fun a ha h => ix_old h1 ha h)
def DKQ (s0 : AS) (z : Nat) (ow0 : Nat → Nat) (R : Nat → Int32) (l : List (Nat × Nat × Nat)) (Lp0 L : Nat → Nat) (M : Nat → Prop) (s' : AS) : Prop := ∃ ow' Lp' T' D' c', ES (IX z ow0 221 234) s0 ow0 s' ow' ∧ KP s' z ow' R T' D' c' l Lp' L M ∧ s'.1.1.2.2 + 2 * smN Lp0 4 ≤ s0.1.1.2.2 + 2 * smN Lp' 4 ∧ 4 * s'.1.1.2.1 + smN Lp0 4 ≤ 4 * s0.1.1.2.1 + smN Lp' 4
theorem driveAll_loop (hN2 : 300 ≤ N) (hN : WN R) (hW : WS R) (htot : tot ≤ 2000) : ∀ (m k fu c : Nat) (s : AS) (ow T D Lp : Nat → Nat) (l : List (Nat × Nat × Nat)), k + m = tot → m < fu → l.length = k → c < 60 → KP s z ow R T D c l Lp L M → ES (IX z ow0 221 234) s0 ow0 s ow → s.1.1.2.2 + 2 * smN Lp0 4 ≤ s0.1.1.2.2 + 2 * smN Lp 4 → 4 * s.1.1.2.1 + smN Lp0 4 ≤ 4 * s0.1.1.2.1 + smN Lp 4 → Rn (f_X5_driveAll_2 N fu (z + 221) (nI tot) (nI k) s) (DKQ s0 z ow0 R (l ++ drA R m T c D) Lp0 L M)
  | 0, k, fu, c, s, ow, T, D, Lp, l, hk, hf, hl, hc, h, he, m1, m2 => by
    obtain ⟨fu, rfl⟩ : ∃ q, fu = q + 1 := ⟨fu - 1, by omega⟩
    show Rn (g_X5_driveAll_2 N (f_X5_driveAll_2 N fu) (z + 221) (nI tot) (nI k) s) _
    unfold g_X5_driveAll_2
    refine rn_t ((nI_leI (by omega) (by omega)).mpr (by omega)) ?_
    refine rn_some ⟨ow, Lp, T, D, c, he, ?_, m1, m2⟩
    show KP s z ow R T D c (l ++ []) Lp L M
    rw [List.append_nil]
    exact h
  | m + 1, k, fu, c, s, ow, T, D, Lp, l, hk, hf, hl, hc, h, he, m1, m2 => by
    obtain ⟨fu, rfl⟩ : ∃ q, fu = q + 1 := ⟨fu - 1, by omega⟩
    have ih := driveAll_loop hN2 hN hW htot m (k + 1) fu
    show Rn (g_X5_driveAll_2 N (f_X5_driveAll_2 N fu) (z + 221) (nI tot) (nI k) s) _
    have n0 := hN.1.2
    have n1 := hN.2.1.2
    have hK := h.1
    have hw := h.2.1
    unfold g_X5_driveAll_2
    refine rn_f (nI_ge (by omega) (by omega)) ?_
    refine rn_bind (k_leave hN2 hK hN hW hc h.2.2.1 h.2.2.2.1) (fun r hr => ?_)
    obtain ⟨pf, hr⟩ := hr
    unfold drA
    rcases hr with ⟨e, q, hP⟩ | ⟨e, q, hP⟩
    · refine rn_f (fun r9 => r9 e) ?_
      rw [ite_n q]
      refine rn_some ⟨ow, Lp, T, D, c, es_fd he ((pf.fd hw).mono (fun a ha => ix_mono ha (by omega) (by omega))), ?_, m1, m2⟩
      rw [List.append_nil]
      exact h.pf hN pf hP
    · rw [ite_p q]
      obtain ⟨hs, -⟩ := lvN_ok q
      generalize lvN R T c = t at e hs hP
      obtain ⟨s1, s2, s3, s4⟩ := hs
      have h1 := h.pf hN pf hP
      have he1 : ES (IX z ow0 221 234) s0 ow0 (s.1, r.2) ow := es_fd he ((pf.fd hw).mono (fun a ha => ix_mono ha (by omega) (by omega)))
      refine rn_t (by rw [e]; exact nI_m1 (by omega)) ?_
      refine r_gP hK 221 5 10 233 rfl (by decide) ?_
      refine rn_eq (q_aT (ks_a hK 233 0 150 rfl) t e (by omega) (by decide)) ?_
      obtain ⟨dt, dt2⟩ := h1.2.2.2.2.1 t s1
      have dt : r.2.1 (z + 233) t = nI (D t) := dt
      rw [dt]
      have fin : ∀ v : Nat, v ≤ 1 → (v = 1 → 0 < D t) → v = (if 0 < D t then 1 else 0) → Rn (f_X5_driveAll_34 N (f_X5_driveAll_2 N fu) (z + 221) (nI tot) (nI k) (z + 221) r.1 (nI v) (s.1, r.2)) (DKQ s0 z ow0 R (l ++ (t, c, if 0 < D t then 1 else 0) :: drA R m (dec1 T t) (oth R t c) (dec1 D t)) Lp0 L M) := fun v v1 v2 v3 => by
        unfold f_X5_driveAll_34 f_X5_driveAll_37
        rw [e]
        refine rn_bind (k_addDrive (s := (s.1, r.2)) v1 v2 hN2 hN hW s1 hc (by omega) h1) (fun r2 hr2 => ?_)
        rcases hr2 with ⟨q1, _⟩ | ⟨q1, q2, ow2, Lp2, e2, k2, a1, a2⟩
        · omega
        · rw [nI_1]
          have eD : (if v = 0 then D else dec1 D t) = dec1 D t := by
            by_cases ev : v = 0
            · rw [if_pos ev]
              refine (dec_0 ?_).symm
              rw [ev] at v3
              by_cases hp : 0 < D t
              · rw [if_pos hp] at v3
                omega
              · omega
            · rw [if_neg ev]
          rw [eD] at k2
          have := ih (oth R t c) r2.2 ow2 (dec1 T t) (dec1 D t) Lp2 (l ++ [(t, c, v)]) (by omega) (by omega) (by simp; omega) (by have := oth_lt (c := c) hW hN s1; omega) k2 (es_tr he1 e2) (by
            have a1 : r2.2.1.1.2.2 + 2 * smN Lp 4 ≤ s.1.1.2.2 + 2 * smN Lp2 4 := a1
            omega) (by
            have a2 : 4 * r2.2.1.1.2.1 + smN Lp 4 ≤ 4 * s.1.1.2.1 + smN Lp2 4 := a2
            omega)
          rw [List.append_assoc, v3] at this
          exact this
      refine rn_ite (fun q0 => ?_) (fun q0 => ?_)
      · have q0 : D t = 0 := by
          rcases Nat.eq_zero_or_pos (D t) with q | q
          · exact q
          · exact absurd q0 (nI_nle q (by omega))
        exact fin 0 (by omega) (fun q => absurd q (by decide)) (by rw [if_neg (by omega)])
      · have q0 : 0 < D t := by
          rcases Nat.eq_zero_or_pos (D t) with q | q
          · rw [q] at q0
            exact absurd (by decide) q0
          · exact q
        exact fin 1 (by omega) (fun _ => q0) (by rw [if_pos q0])
theorem k_driveAll (hN2 : 3000 ≤ N) (hN : WN R) (hW : WS R) (htot : tot ≤ 2000) (h : KP s z ow R T D 0 [] Lp L M) : Rn (f_X5_driveAll N (z + 221) (nI tot) s) (DKQ s z ow R (drA R tot T 0 D) Lp L M) := by
  unfold f_X5_driveAll
  refine rn_t (ks_o h.1 221 5 rfl) ?_
  exact driveAll_loop (s0 := s) (ow0 := ow) (Lp0 := Lp) (by omega) hN hW htot tot 0 N 0 s ow T D Lp [] (by omega) (by omega) rfl (by decide) h ES.rf (Nat.le_refl _) (Nat.le_refl _)
end DK3
/-! 84.odd.lean.txt -/
/-! the ODD CROSSINGS -/
def T0 (R : Nat → Int32) (s : Nat) : Nat := if R (16 + 9 * s + 4) = 0 then nn R (16 + 9 * s + 3) else 0
def dgT (R : Nat → Int32) (T : Nat → Nat) (c : Nat) : Nat → Nat
  | 0 => 0
  | s + 1 => dgT R T c s + if eA R s = c ∨ eB R s = c then T s else 0
def oddP (R : Nat → Int32) (T : Nat → Nat) (i : Nat) : List Nat := (List.range i).filter (fun c => dgT R T c (nn R 1) % 2 = 1)
section OD
variable {Q : Dt → Prop} {sh : Sh} {d d0 d' : Dt} {z : Nat} {ow : Nat → Nat} {R K : Nat → Int32} {N c i : Nat} {T T' : Nat → Nat} {L : Nat → Nat}
theorem oddP_s : oddP R T (i + 1) = oddP R T i ++ if dgT R T i (nn R 1) % 2 = 1 then [i] else [] := by
  unfold oddP
  rw [List.range_succ, List.filter_append]
  congr 1
  by_cases h : dgT R T i (nn R 1) % 2 = 1
  · rw [if_pos h]
    simp [h]
  · rw [if_neg h]
    simp [h]
theorem oddP_len : ∀ i, (oddP R T i).length ≤ i
  | 0 => by
    show (List.filter _ (List.range 0)).length ≤ 0
    simp
  | i + 1 => by
    have := oddP_len i
    rw [oddP_s, List.length_append]
    split <;> simp <;> omega
theorem dg_par (h : ∀ s, T' s % 2 = T s % 2) : ∀ i, dgT R T' c i % 2 = dgT R T c i % 2
  | 0 => rfl
  | i + 1 => by
    have h1 := dg_par h i
    have h2 := h i
    show (dgT R T' c i + if eA R i = c ∨ eB R i = c then T' i else 0) % 2 = (dgT R T c i + if eA R i = c ∨ eB R i = c then T i else 0) % 2
    split <;> omega
theorem oddP_par (h : ∀ s, T' s % 2 = T s % 2) : oddP R T' i = oddP R T i := by
  unfold oddP
  congr 1
  funext c
  rw [dg_par h]
theorem dg_le (h : ∀ s, s < nn R 1 → T s ≤ 10000) : ∀ i, i ≤ nn R 1 → dgT R T c i ≤ 10000 * i
  | 0, _ => Nat.le_refl _
  | i + 1, hi => by
    have h1 := dg_le h i (by omega)
    have h2 := h i (by omega)
    show (dgT R T c i + if eA R i = c ∨ eB R i = c then T i else 0) ≤ 10000 * (i + 1)
    split <;> omega
theorem dg_T0 (hW : WS R) (hN : WN R) (hc : c < 60) : ∀ i, i ≤ nn R 1 → dgr R c i = dgT R (T0 R) c i
  | 0, _ => rfl
  | i + 1, hi => by
    have n0 := hN.1.2
    have h1 := dg_T0 hW hN hc i (by omega)
    obtain ⟨e7, a2, e8, b2, hne⟩ := ws_e hW hN (s := i) (by omega)
    show dgr R c i + (if R (16 + 9 * i + 4) = 0 ∧ (R (16 + 9 * i + 7) = nI c ∨ R (16 + 9 * i + 8) = nI c) then nn R (16 + 9 * i + 3) else 0) = dgT R (T0 R) c i + if eA R i = c ∨ eB R i = c then T0 R i else 0
    have xx : (nI (eA R i) = nI c ∨ nI (eB R i) = nI c) ↔ (eA R i = c ∨ eB R i = c) := or_congr (nI_eq (by omega) (by omega)) (nI_eq (by omega) (by omega))
    rw [h1, e7, e8]
    unfold T0
    congr 1
    by_cases q1 : R (16 + 9 * i + 4) = 0
    · by_cases q2 : eA R i = c ∨ eB R i = c
      · rw [if_pos ⟨q1, xx.mpr q2⟩, if_pos q2, if_pos q1]
      · rw [if_neg (fun r => q2 (xx.mp r.2)), if_neg q2]
    · rw [if_neg (fun r => q1 r.1), if_neg q1]
      split <;> rfl
theorem oddl_eq (hW : WS R) (hN : WN R) : oddl R = oddP R (T0 R) (nn R 0) := by
  have n0 := hN.1.2
  unfold oddl oddP
  refine List.filter_congr (fun c hc => ?_)
  have := List.mem_range.mp hc
  rw [dg_T0 hW hN (by omega) _ (Nat.le_refl _)]
def OL (d : Dt) (a : Nat) (l : List Nat) : Prop := ∀ k, k < l.length → d.1 a k = nI (l.getD k 0)
theorem getN_app {l : List Nat} {x e k : Nat} (hk : k < l.length) : (l ++ [x]).getD k e = l.getD k e := by
  simp [List.getD, List.getElem?_append_left hk]
theorem getN_last {l : List Nat} {x e : Nat} : (l ++ [x]).getD l.length e = x := by
  simp [List.getD]
theorem ol_app {a x : Nat} {l : List Nat} (h : OL d a l) : OL (wI d a l.length (nI x)) a (l ++ [x]) := fun k hk => by
  rw [wI_s]
  by_cases e : k = l.length
  · rw [e, va_up_s, getN_last]
  · rw [va_up_n e, getN_app (by simp at hk; omega)]
    exact h k (by simp at hk; omega)
/-- what findOdd() touches -/
def OF (z : Nat) (d d' : Dt) : Prop := d'.2 = d.2 ∧ (∀ a, a ≠ z + 242 → a ≠ z + 252 → d'.1 a = d.1 a) ∧ ∀ k, k ≠ 16 → d'.1 (z + 242) k = d.1 (z + 242) k
theorem OF.rf : OF z d d := ⟨rfl, fun _ _ _ => rfl, fun _ _ => rfl⟩
theorem OF.tr {d1 d2 : Dt} (h1 : OF z d d1) (h2 : OF z d1 d2) : OF z d d2 := ⟨h2.1.trans h1.1, fun a q1 q2 => (h2.2.1 a q1 q2).trans (h1.2.1 a q1 q2), fun k q => (h2.2.2 k q).trans (h1.2.2 k q)⟩
theorem OF.w {v : Int32} : OF z d (wI d (z + 242) 16 v) := ⟨rfl, fun a q _ => wI_n q, fun k q => by rw [wI_s, va_up_n q]⟩
theorem OF.w2 {k : Nat} {v : Int32} : OF z d (wI d (z + 252) k v) := ⟨rfl, fun a _ q => wI_n q, fun k _ => by rw [wI_n (by omega)]⟩
theorem OF.ag (h : OF z d d') (hA : AG (d.1 (z + 243)) R) : AG (d'.1 (z + 243)) R := by
  rw [h.2.1 (z + 243) (by omega) (by omega)]
  exact hA
theorem OF.tv (h : OF z d d') (hT : TV2 z R d T) : TV2 z R d' T := fun s hs => by
  rw [h.2.1 (z + 251) (by omega) (by omega)]
  exact hT s hs
theorem fo_in {k7 : Nat → Int32 → Dt → Option Dt} (hK : KS sh z) (hN : WN R) (hW : WS R) (hA : AG (d.1 (z + 243)) R) (hT : TV2 z R d T) (hc : c < 60) (hk : Rn (f_X12_findOdd_85 N sh k7 (z + 242) (nI c) (nI (dgT R T c (nn R 1))) d) Q) : ∀ (m i fu : Nat), i + m = nn R 1 → m < fu → Rn (f_X12_findOdd_21 N sh k7 fu (z + 242) (nI c) (nI (dgT R T c i)) (nI i) d) Q
  | 0, i, fu, hi, hf => by
    obtain ⟨fu, rfl⟩ : ∃ q, fu = q + 1 := ⟨fu - 1, by omega⟩
    show Rn (g_X12_findOdd_21 N sh k7 (f_X12_findOdd_21 N sh k7 fu) (z + 242) (nI c) (nI (dgT R T c i)) (nI i) d) _
    have n1 := hN.2.1
    unfold g_X12_findOdd_21
    refine rdg hK hA 1 rfl (by decide) ?_
    rw [n1.1]
    refine rn_t ((nI_leI (by omega) (by omega)).mpr (by omega)) ?_
    have e : i = nn R 1 := by omega
    rw [e]
    exact hk
  | m + 1, i, fu, hi, hf => by
    obtain ⟨fu, rfl⟩ : ∃ q, fu = q + 1 := ⟨fu - 1, by omega⟩
    have ih := fo_in hK hN hW hA hT hc hk m (i + 1) fu (by omega) (by omega)
    show Rn (g_X12_findOdd_21 N sh k7 (f_X12_findOdd_21 N sh k7 fu) (z + 242) (nI c) (nI (dgT R T c i)) (nI i) d) _
    have n0 := hN.1.2
    have n1 := hN.2.1
    have his : i < nn R 1 := by omega
    obtain ⟨e7, a2, e8, b2, hne⟩ := ws_e hW hN his
    have e9 : dgT R T c (i + 1) = dgT R T c i + if eA R i = c ∨ eB R i = c then T i else 0 := rfl
    unfold g_X12_findOdd_21 f_X12_findOdd_67 f_X12_findOdd_77
    refine rdg hK hA 1 rfl (by decide) ?_
    rw [n1.1]
    refine rn_f (nI_ge his (by omega)) ?_
    refine rn_eq (m_st hK) ?_
    refine rdg hK hA (16 + 9 * i + 7) (ix_st i 7) (by omega) ?_
    rw [e7]
    have yes : eA R i = c ∨ eB R i = c → Rn ((gP sh (z + 242) 12 14).bind fun v17 => (aT 0 sh d v17 (nI i)).bind fun v18 => f_X12_findOdd_21 N sh k7 fu (z + 242) (nI c) (nI (dgT R T c i) + v18) (nI i + 1) d) Q := fun hy => by
      refine r_gP hK 242 12 14 251 rfl (by decide) ?_
      refine rn_eq (q_aT (ks_a hK 251 0 150 rfl) i rfl (by omega) (by decide)) ?_
      rw [hT i his, nI_add, nI_1]
      rw [e9, if_pos hy] at ih
      exact ih
    refine rn_ite (fun q => yes (Or.inl (nI_inj q (by omega) (by omega)))) (fun q => ?_)
    refine rdg hK hA (16 + 9 * i + 8) (ix_st i 8) (by omega) ?_
    rw [e8]
    refine rn_ite (fun q2 => ?_) (fun q2 => yes (Or.inr (nI_inj (Decidable.of_not_not q2) (by omega) (by omega))))
    rw [e9, if_neg (fun r => r.elim (fun r => q (by rw [r])) (fun r => q2 (by rw [r])))] at ih
    rw [show nI (dgT R T c i) + (0 : Int32) = nI (dgT R T c i + 0) from nI_add _ 0, nI_1]
    exact ih
theorem fo_out (hN1 : 200 ≤ N) (hK : KS sh z) (hN : WN R) (hW : WS R) (hA : AG (d0.1 (z + 243)) R) (hT : TV2 z R d0 T) (hTb : ∀ s, s < nn R 1 → T s ≤ 10000) : ∀ (m i fu : Nat) (d : Dt), i + m = nn R 0 → m < fu → OF z d0 d → d.1 (z + 242) 16 = nI (oddP R T i).length → OL d (z + 252) (oddP R T i) → Rn (f_X12_findOdd_7 N sh fu (z + 242) (nI i) d) (fun d' => OF z d0 d' ∧ d'.1 (z + 242) 16 = nI (oddP R T (nn R 0)).length ∧ OL d' (z + 252) (oddP R T (nn R 0)))
  | 0, i, fu, d, hi, hf, hM, h1, h2 => by
    obtain ⟨fu, rfl⟩ : ∃ q, fu = q + 1 := ⟨fu - 1, by omega⟩
    show Rn (g_X12_findOdd_7 N sh (f_X12_findOdd_7 N sh fu) (z + 242) (nI i) d) _
    have n0 := hN.1
    unfold g_X12_findOdd_7
    refine rdg hK (hM.ag hA) 0 rfl (by decide) ?_
    rw [n0.1]
    refine rn_t ((nI_leI (by omega) (by omega)).mpr (by omega)) ?_
    have e : i = nn R 0 := by omega
    subst e
    exact rn_some ⟨hM, h1, h2⟩
  | m + 1, i, fu, d, hi, hf, hM, h1, h2 => by
    obtain ⟨fu, rfl⟩ : ∃ q, fu = q + 1 := ⟨fu - 1, by omega⟩
    have ih := fo_out hN1 hK hN hW hA hT hTb m (i + 1) fu
    show Rn (g_X12_findOdd_7 N sh (f_X12_findOdd_7 N sh fu) (z + 242) (nI i) d) _
    have n0 := hN.1
    have n1 := hN.2.1.2
    have hlen := oddP_len (R := R) (T := T) i
    have hdg := dg_le (R := R) (T := T) (c := i) hTb (nn R 1) (Nat.le_refl _)
    unfold g_X12_findOdd_7
    refine rdg hK (hM.ag hA) 0 rfl (by decide) ?_
    rw [n0.1]
    refine rn_f (nI_ge (by omega) (by omega)) ?_
    refine fo_in (T := T) hK hN hW (hM.ag hA) (hM.tv hT) (by omega) ?_ (nn R 1) 0 N (by omega) (by omega)
    unfold f_X12_findOdd_85 f_X12_findOdd_112
    have hrem : o_irem (nI (dgT R T i (nn R 1))) 2 = some (nI (dgT R T i (nn R 1) % 2)) := by
      unfold o_irem
      rw [if_neg (by decide), show (2 : Int32) = nI 2 from rfl, pk_rem (by omega) (by decide) (by decide)]
    refine rn_eq hrem ?_
    rw [nI_1]
    refine rn_ite (fun q => ?_) (fun q => ?_)
    · have q : ¬ dgT R T i (nn R 1) % 2 = 1 := fun r => q (by rw [r]; rfl)
      refine ih d (by omega) (by omega) hM ?_ ?_
      · rw [oddP_s, if_neg q, List.append_nil]
        exact h1
      · rw [oddP_s, if_neg q, List.append_nil]
        exact h2
    · have q : dgT R T i (nn R 1) % 2 = 1 := nI_inj (b := 1) (Decidable.of_not_not q) (by omega) (by decide)
      refine r_gP hK 242 12 15 252 rfl (by decide) ?_
      refine r_gI hK (i := 242) (c := 12) rfl ?_
      rw [h1]
      refine rn_eq (q_sI (ks_a hK 252 0 60 rfl) (oddP R T i).length rfl (by omega) (by decide)) ?_
      refine r_gI hK (i := 242) (c := 12) rfl ?_
      refine r_pI hK (i := 242) (c := 12) rfl ?_
      have e16 : (wI d (z + 252) (oddP R T i).length (nI i)).1 (z + 242) 16 = nI (oddP R T i).length := by
        rw [wI_n (by omega)]
        exact h1
      rw [e16, nI_1]
      refine ih _ (by omega) (by omega) (hM.tr (OF.w2.tr OF.w)) ?_ ?_
      · rw [wI_s, va_up_s, oddP_s, if_pos q]
        simp
      · rw [oddP_s, if_pos q]
        intro k hk
        rw [wI_n (by omega)]
        exact ol_app h2 k hk
theorem m_findOdd (hN1 : 200 ≤ N) (hK : KS sh z) (hN : WN R) (hW : WS R) (hA : AG (d.1 (z + 243)) R) (hT : TV2 z R d T) (hTb : ∀ s, s < nn R 1 → T s ≤ 10000) : Rn (f_X12_findOdd N sh (z + 242) d) (fun d' => OF z d d' ∧ d'.1 (z + 242) 16 = nI (oddP R T (nn R 0)).length ∧ OL d' (z + 252) (oddP R T (nn R 0))) := by
  have n0 := hN.1.2
  unfold f_X12_findOdd
  refine rn_t (ks_o hK 242 12 rfl) ?_
  refine r_pI hK (i := 242) (c := 12) rfl ?_
  refine fo_out (d0 := d) hN1 hK hN hW hA hT hTb (nn R 0) 0 N _ (by omega) (by omega) OF.w ?_ (fun k hk => absurd hk (by simp [oddP]))
  rw [wI_s, va_up_s]
  rfl
/-! beginTimes() -/
theorem bt_loop9 (hK : KS sh z) (hN : WN R) (hW : WS R) (hA : AG (d0.1 (z + 243)) R) : ∀ (m i fu : Nat) (d : Dt), i + m = nn R 1 → m < fu → TF z d0 d → (∀ s, s < i → d.1 (z + 251) s = nI (T0 R s)) → Rn (f_X12_beginTimes_2 N sh fu (z + 242) (nI i) d) (fun d' => TF z d0 d' ∧ TV2 z R d' (T0 R))
  | 0, i, fu, d, hi, hf, hM, hv => by
    obtain ⟨fu, rfl⟩ : ∃ q, fu = q + 1 := ⟨fu - 1, by omega⟩
    show Rn (g_X12_beginTimes_2 N sh (f_X12_beginTimes_2 N sh fu) (z + 242) (nI i) d) _
    have n1 := hN.2.1
    have hA1 : AG (d.1 (z + 243)) R := by rw [hM.2 (z + 243) (by omega)]; exact hA
    unfold g_X12_beginTimes_2
    refine rdg hK hA1 1 rfl (by decide) ?_
    rw [n1.1]
    refine rn_t ((nI_leI (by omega) (by omega)).mpr (by omega)) ?_
    exact rn_some ⟨hM, fun s hs => hv s (by omega)⟩
  | m + 1, i, fu, d, hi, hf, hM, hv => by
    obtain ⟨fu, rfl⟩ : ∃ q, fu = q + 1 := ⟨fu - 1, by omega⟩
    have ih := bt_loop9 hK hN hW hA m (i + 1) fu
    show Rn (g_X12_beginTimes_2 N sh (f_X12_beginTimes_2 N sh fu) (z + 242) (nI i) d) _
    have n1 := hN.2.1
    have his : i < nn R 1 := by omega
    have hA1 : AG (d.1 (z + 243)) R := by rw [hM.2 (z + 243) (by omega)]; exact hA
    obtain ⟨-, -, -, e4, e3, e32⟩ := hW i his
    have fin : ∀ w : Nat, w = T0 R i → Rn (f_X12_beginTimes_41 N sh (f_X12_beginTimes_2 N sh fu) (z + 242) (nI i) (z + 251) (nI i) (nI w) d) (fun d' => TF z d0 d' ∧ TV2 z R d' (T0 R)) := fun w hw => by
      unfold f_X12_beginTimes_41
      refine rn_eq (q_sI (ks_a hK 251 0 150 rfl) i rfl (by omega) (by decide)) ?_
      rw [nI_1]
      refine ih _ (by omega) (by omega) hM.w (fun s hs => ?_)
      rw [wI_s]
      by_cases e : s = i
      · rw [e, va_up_s, hw]
      · rw [va_up_n e]
        exact hv s (by omega)
    have must : ∀ b : Int32, b = (if T0 R i = 0 then 0 else 1) → f_X12_must N sh (z + 242) (nI i) d = some b := fun b hb => by
      refine rn_val ?_
      unfold f_X12_must
      refine rn_t (ks_o hK 242 12 rfl) ?_
      refine rn_eq (m_isOpen hK hA1 (by omega)) ?_
      unfold T0 at hb
      by_cases h4 : R (16 + 9 * i + 4) = 0
      · rw [if_pos h4] at hb ⊢
        refine rn_f (by decide) ?_
        refine rds hK hA1 3 (by omega) (by decide) rfl ?_
        rw [e3]
        rcases Nat.eq_zero_or_pos (nn R (16 + 9 * i + 3)) with q | q
        · rw [if_pos q] at hb
          rw [q, hb]
          exact rn_t (by decide) ⟨0, rfl, rfl⟩
        · rw [if_neg (by omega)] at hb
          rw [hb]
          exact rn_f (nI_nle q (by omega)) ⟨1, rfl, rfl⟩
      · rw [if_neg h4] at hb ⊢
        rw [if_pos rfl] at hb
        rw [hb]
        exact rn_t rfl ⟨0, rfl, rfl⟩
    unfold g_X12_beginTimes_2
    refine rdg hK hA1 1 rfl (by decide) ?_
    rw [n1.1]
    refine rn_f (nI_ge his (by omega)) ?_
    refine r_gP hK 242 12 14 251 rfl (by decide) ?_
    refine rn_eq (must _ rfl) ?_
    by_cases h0 : T0 R i = 0
    · rw [if_pos h0]
      refine rn_t rfl ?_
      exact fin 0 h0.symm
    · rw [if_neg h0]
      refine rn_f (by decide) ?_
      refine rds hK hA1 3 (by omega) (by decide) rfl ?_
      rw [e3]
      refine fin _ ?_
      unfold T0 at h0 ⊢
      by_cases h4 : R (16 + 9 * i + 4) = 0
      · rw [if_pos h4]
      · rw [if_neg h4] at h0
        exact absurd rfl h0
theorem m_beginTimes (hN1 : 200 ≤ N) (hK : KS sh z) (hN : WN R) (hW : WS R) (hA : AG (d.1 (z + 243)) R) : Rn (f_X12_beginTimes N sh (z + 242) d) (fun d' => TF z d d' ∧ TV2 z R d' (T0 R)) := by
  have n1 := hN.2.1.2
  unfold f_X12_beginTimes
  refine rn_t (ks_o hK 242 12 rfl) ?_
  exact bt_loop9 (d0 := d) hK hN hW hA (nn R 1) 0 N d (by omega) (by omega) TF.rf (fun s hs => absurd hs (Nat.not_lt_zero s))
theorem T0_le (hW : WS R) {s : Nat} (hs : s < nn R 1) : T0 R s ≤ 2 := by
  obtain ⟨-, -, -, e4, e3, e32⟩ := hW s hs
  unfold T0
  split <;> omega
theorem T0_opt : OPT R (T0 R) := fun s hs hp => by
  unfold T0 at hp
  by_cases h : R (16 + 9 * s + 4) = 0
  · exact h
  · rw [if_neg h] at hp
    omega
end OD
