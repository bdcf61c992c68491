def TV2 (z : Nat) (R : Nat → Int32) (d : Dt) (T : Nat → Nat) : Prop := ∀ s, s < nn R 1 → d.1 (z + 251) s = nI (T s)
def RCx (d : Dt) (z : Nat) (R : Nat → Int32) : Prop := AG (d.1 (z + 243)) R ∧ ∀ a b, a < nn R 0 → b < nn R 0 → dOK R 268435456 a b (d.1 (z + 247) (60 * a + b))
/-- the best of those that were seen -/
def JB (R : Nat → Int32) (T : Nat → Nat) (far : Nat) (seen : Nat → Nat → Prop) (l1 l2 l3 : Int32) : Prop := (l3 = nI far ∧ ∀ x y n, seen x y → ¬ cand R T x y n) ∨ ∃ p q n, l1 = nI p ∧ l2 = nI q ∧ l3 = nI n ∧ n < 2 ^ 28 ∧ seen p q ∧ cand R T p q n ∧ ∀ x y n', seen x y → cand R T x y n' → n < n' ∨ (n = n' ∧ (p < x ∨ (p = x ∧ q ≤ y)))
section JR
variable {β : Type} {Q : Int32 × Dt → Prop} {sh : Sh} {d d0 d' : Dt} {z : Nat} {R K : Nat → Int32} {N b : Nat} {T : Nat → Nat}
theorem JB.cg {far : Nat} {seen seen' : Nat → Nat → Prop} {l1 l2 l3 : Int32} (h : JB R T far seen l1 l2 l3) (hs : ∀ x y n, cand R T x y n → (seen x y ↔ seen' x y)) : JB R T far seen' l1 l2 l3 := by
  rcases h with ⟨h1, h2⟩ | ⟨p, q, n, h1, h2, h3, h4, h5, h6, h7⟩
  · exact Or.inl ⟨h1, fun x y n hx hc => h2 x y n ((hs x y n hc).mpr hx) hc⟩
  · exact Or.inr ⟨p, q, n, h1, h2, h3, h4, (hs p q n h6).mp h5, h6, fun x y n' hx hc => h7 x y n' ((hs x y n' hc).mpr hx) hc⟩
theorem JB.take {far x0 y0 n0 : Nat} {seen : Nat → Nat → Prop} {l1 l2 l3 : Int32} (h : JB R T far seen l1 l2 l3) (hc : cand R T x0 y0 n0) (hn : n0 < 2 ^ 28) (hb : ∀ p q n, l1 = nI p → l3 = nI n → seen p q → cand R T p q n → n < 2 ^ 28 → n0 < n ∨ (n0 = n ∧ x0 < p)) : JB R T far (fun x y => seen x y ∨ (x = x0 ∧ y = y0)) (nI x0) (nI y0) (nI n0) := by
  refine Or.inr ⟨x0, y0, n0, rfl, rfl, rfl, hn, Or.inr ⟨rfl, rfl⟩, hc, fun x y n' hx hc' => ?_⟩
  rcases hx with hx | ⟨rfl, rfl⟩
  · rcases h with ⟨h1, h2⟩ | ⟨p, q, n, h1, h2, h3, h4, h5, h6, h7⟩
    · exact absurd hc' (h2 x y n' hx)
    · have r1 := hb p q n h1 h3 h5 h6 h4
      have r2 := h7 x y n' hx hc'
      omega
  · have := dst_fun hc.2.2.2.2 hc'.2.2.2.2
    omega
theorem JB.skip {far x0 y0 : Nat} {seen : Nat → Nat → Prop} {l1 l2 l3 : Int32} (h : JB R T far seen l1 l2 l3) (hb : ∀ n0, cand R T x0 y0 n0 → ∃ p q n, l1 = nI p ∧ l2 = nI q ∧ l3 = nI n ∧ n < 2 ^ 28 ∧ seen p q ∧ cand R T p q n ∧ (∀ x y n', seen x y → cand R T x y n' → n < n' ∨ (n = n' ∧ (p < x ∨ (p = x ∧ q ≤ y)))) ∧ (n < n0 ∨ (n = n0 ∧ (p < x0 ∨ (p = x0 ∧ q ≤ y0))))) : JB R T far (fun x y => seen x y ∨ (x = x0 ∧ y = y0)) l1 l2 l3 := by
  by_cases hq : ∃ n0, cand R T x0 y0 n0
  · obtain ⟨n0, hn0⟩ := hq
    obtain ⟨p, q, n, a1, a2, a3, a4, a5, a6, a7, a8⟩ := hb n0 hn0
    refine Or.inr ⟨p, q, n, a1, a2, a3, a4, Or.inl a5, a6, fun x y n' hx hc => ?_⟩
    rcases hx with hx | ⟨rfl, rfl⟩
    · exact a7 x y n' hx hc
    · rw [dst_fun hc.2.2.2.2 hn0.2.2.2.2]
      exact a8
  · rcases h with ⟨h1, h2⟩ | ⟨p, q, n, h1, h2, h3, h4, h5, h6, h7⟩
    · exact Or.inl ⟨h1, fun x y n hx hc => hx.elim (fun r => h2 x y n r hc) (fun r => hq ⟨n, by rw [← r.1, ← r.2]; exact hc⟩)⟩
    · exact Or.inr ⟨p, q, n, h1, h2, h3, h4, Or.inl h5, h6, fun x y n' hx hc => hx.elim (fun r => h7 x y n' r hc) (fun r => absurd ⟨n', by rw [← r.1, ← r.2]; exact hc⟩ hq)⟩
/-- TIMES alone are touched -/
def TF (z : Nat) (d d' : Dt) : Prop := d'.2 = d.2 ∧ ∀ a, a ≠ z + 251 → d'.1 a = d.1 a
theorem TF.rf : TF z d d := ⟨rfl, fun _ _ => rfl⟩
theorem TF.w {k : Nat} {v : Int32} (h : TF z d d') : TF z d (wI d' (z + 251) k v) := ⟨h.1, fun a q => (wI_n q).trans (h.2 a q)⟩
theorem TF.rc (h : TF z d d') (hR : RCx d z R) : RCx d' z R := by
  unfold RCx
  rw [h.2 (z + 243) (by omega), h.2 (z + 247) (by omega)]
  exact hR
theorem adds_loop {n9 : Nat} {Q : Dt → Prop} (hN1 : 151 ≤ N) (hK : KS sh z) (hN : WN R) (hW : WS R) (hR : RCx d0 z R) (hb : b < nn R 0) (hQ : ∀ (d' : Dt) (T' : Nat → Nat), TF z d0 d' → TV2 z R d' T' → T' = T → Q d') : ∀ (k a fu : Nat) (d : Dt) (T0 : Nat → Nat), rk R b k a → a < nn R 0 → k < fu → TF z d0 d → TV2 z R d T0 → addL n9 T0 (wayL R b k a) = T → Rn (f_X12_adds_3 N sh fu (z + 242) (nI b) (nI n9) (nI a) d) Q
  | k, a, 0, d, T0, hk, ha, hf, hM, hT, hE => absurd hf (Nat.not_lt_zero k)
  | 0, a, fu + 1, d, T0, hk, ha, hf, hM, hT, hE => by
    show Rn (g_X12_adds_3 N sh (f_X12_adds_3 N sh fu) (z + 242) (nI b) (nI n9) (nI a) d) _
    unfold g_X12_adds_3
    have hk : a = b := hk
    refine rn_t (by rw [hk]) ?_
    exact rn_some (hQ d T0 hM hT hE)
  | k + 1, a, fu + 1, d, T0, hk, ha, hf, hM, hT, hE => by
    have n0 := hN.1.2
    have n1 := hN.2.1.2
    show Rn (g_X12_adds_3 N sh (f_X12_adds_3 N sh fu) (z + 242) (nI b) (nI n9) (nI a) d) _
    unfold g_X12_adds_3
    unfold wayL at hE
    by_cases e : a = b
    · refine rn_t (by rw [e]) ?_
      rw [if_pos e] at hE
      exact rn_some (hQ d T0 hM hT hE)
    · rw [if_neg e] at hE
      refine rn_f (fun q => e (nI_inj q (by omega) (by omega))) ?_
      obtain ⟨⟨n, hd⟩, hq, hr⟩ := hk.resolve_left e
      have hs := hq.1.2.1.1
      have hRd := hM.rc hR
      have hA := ks_a hK 251 0 150 rfl
      refine rn_eq (m_onTo hN1 hK hN hW hRd.1 hRd.2 ha hb hd e) ?_
      refine r_gP hK 242 12 14 251 rfl (by decide) ?_
      refine rn_eq (q_aT hA (nxt R b a).1 rfl (by omega) (by decide)) ?_
      rw [hT _ hs, nI_add]
      refine rn_eq (q_sI hA (nxt R b a).1 rfl (by omega) (by decide)) ?_
      have hM1 : TF z d0 (wI d (z + 251) (nxt R b a).1 (nI (T0 (nxt R b a).1 + n9))) := hM.w
      refine rn_eq (m_leads hK (hM1.rc hR).1 (by omega)) ?_
      rw [nxt_leads hW hN ha hq]
      refine adds_loop hN1 hK hN hW hR hb hQ k _ fu _ (va_up T0 (nxt R b a).1 (T0 (nxt R b a).1 + n9)) hr hq.1.1 (by omega) hM1 (fun s hs => ?_) hE
      rw [wI_s]
      by_cases es : s = (nxt R b a).1
      · rw [es, va_up_s, va_up_s]
      · rw [va_up_n es, va_up_n es]
        exact hT s hs
theorem m_adds {a n n9 : Nat} (hNf : 2 ^ 40 ≤ N) (hK : KS sh z) (hN : WN R) (hW : WS R) (hR : RCx d z R) (ha : a < nn R 0) (hb : b < nn R 0) (hd : dst R a b n) (hT : TV2 z R d T) : Rn (f_X12_adds N sh (z + 242) (nI a) (nI b) (nI n9) d) (fun d' => TF z d d' ∧ TV2 z R d' (addL n9 T (wayL R b 60 a))) := by
  unfold f_X12_adds
  refine rn_t (ks_o hK 242 12 rfl) ?_
  exact adds_loop (d0 := d) (T := addL n9 T (wayL R b 60 a)) (by omega) hK hN hW hR hb (fun d' T' h1 h2 h3 => ⟨h1, by rw [← h3]; exact h2⟩) 60 a N d T (rk_60 hW hN hd) ha (by omega) TF.rf hT rfl
theorem jx_loop {k14 : Nat → Dt → Option (Int32 × Dt)} {k35 : Nat → Int32 → Int32 → Int32 → Int32 → Dt → Option (Int32 × Dt)} {Y : Nat} {v : Int32} (hK : KS sh z) (hN : WN R) (hR : RCx d z R) (hC : CM d z (rch R T 0)) (hY : Y < nn R 0) (hv : (v = 0 ∧ ¬ lost R T 0 Y) ∨ (v = 1 ∧ lost R T 0 Y)) (hk : ∀ l1 l2 l3, JB R T (2 ^ 28) (fun _ y => y < Y + 1) l1 l2 l3 → Rn (k35 (z + 242) l1 l2 l3 (nI (Y + 1)) d) Q) : ∀ (m i fu : Nat) (l1 l2 l3 : Int32), i + m = nn R 0 → m < fu → JB R T (2 ^ 28) (fun x y => y < Y ∨ (y = Y ∧ x < i)) l1 l2 l3 → Rn (f_X12_joinsAll_57 N sh k14 k35 fu (z + 242) l1 l2 l3 (nI Y) v (nI i) d) Q
  | 0, i, fu, l1, l2, l3, hi, hf, hJ => by
    obtain ⟨fu, rfl⟩ : ∃ q, fu = q + 1 := ⟨fu - 1, by omega⟩
    show Rn (g_X12_joinsAll_57 N sh k14 k35 (f_X12_joinsAll_57 N sh k14 k35 fu) (z + 242) l1 l2 l3 (nI Y) v (nI i) d) _
    have n0 := hN.1
    unfold g_X12_joinsAll_57 f_X12_joinsAll_143
    refine rdg hK hR.1 0 rfl (by decide) ?_
    rw [n0.1, nI_1]
    refine rn_t ((nI_leI (by omega) (by omega)).mpr (by omega)) ?_
    refine hk l1 l2 l3 (hJ.cg (fun x y n hc => ⟨fun r => by omega, fun r => ?_⟩))
    have := hc.2.1
    have r : y < Y + 1 := r
    omega
  | m + 1, i, fu, l1, l2, l3, hi, hf, hJ => by
    obtain ⟨fu, rfl⟩ : ∃ q, fu = q + 1 := ⟨fu - 1, by omega⟩
    have ih := jx_loop (k14 := k14) hK hN hR hC hY hv hk m (i + 1) fu
    show Rn (g_X12_joinsAll_57 N sh k14 k35 (f_X12_joinsAll_57 N sh k14 k35 fu) (z + 242) l1 l2 l3 (nI Y) v (nI i) d) _
    have n0 := hN.1
    have hx : i < nn R 0 := by omega
    unfold g_X12_joinsAll_57 f_X12_joinsAll_143
    refine rdg hK hR.1 0 rfl (by decide) ?_
    rw [n0.1, nI_1]
    refine rn_f (nI_ge hx (by omega)) ?_
    rcases hv with hv | hv
    · refine rn_t hv.1 ?_
      refine hk l1 l2 l3 (hJ.cg (fun x y n hc => ⟨fun r => by omega, fun r => ?_⟩))
      have r : y < Y + 1 := r
      by_cases e : y = Y
      · rw [e] at hc
        exact absurd hc.2.2.1 hv.2
      · exact Or.inl (by omega)
    · refine rn_f (by rw [hv.1]; decide) ?_
      refine r_gP hK 242 12 17 253 rfl (by decide) ?_
      refine rn_eq (q_aT (ks_a hK 253 4 60 rfl) i rfl (by omega) (by decide)) ?_
      have cg : ∀ l1 l2 l3, JB R T (2 ^ 28) (fun x y => (y < Y ∨ (y = Y ∧ x < i)) ∨ (x = i ∧ y = Y)) l1 l2 l3 → JB R T (2 ^ 28) (fun x y => y < Y ∨ (y = Y ∧ x < i + 1)) l1 l2 l3 := fun l1 l2 l3 h => h.cg (fun x y n _ => ⟨fun r => by omega, fun r => by omega⟩)
      have nxt9 : ∀ l1 l2 l3, JB R T (2 ^ 28) (fun x y => (y < Y ∨ (y = Y ∧ x < i)) ∨ (x = i ∧ y = Y)) l1 l2 l3 → Rn (f_X12_joinsAll_57 N sh k14 k35 fu (z + 242) l1 l2 l3 (nI Y) v (nI (i + 1)) d) Q := fun l1 l2 l3 h => ih l1 l2 l3 (by omega) (by omega) (cg l1 l2 l3 h)
      rcases hC i (by omega) with ⟨q1, q2⟩ | ⟨q1, q2⟩
      · refine rn_f (by rw [q1]; decide) ?_
        refine r_gP hK 242 12 9 247 rfl (by decide) ?_
        refine rn_eq (q_aT (ks_a hK 247 0 3600 rfl) (60 * i + Y) (ix_far i Y) (by omega) (by decide)) ?_
        unfold f_X12_joinsAll_101 f_X12_joinsAll_128 f_X12_joinsAll_137
        rw [nI_1]
        rcases hR.2 i Y hx hY with ⟨n, r1, r2, r3⟩ | ⟨r1, r3⟩
        · have hc : cand R T i Y n := ⟨q2, hx, hv.2, hY, r1⟩
          rw [r3]
          refine rn_ite (fun h1 => ?_) (fun h1 => ?_)
          · refine nxt9 _ _ _ (hJ.take hc r2 (fun p q n' e1 e2 _ _ e3 => ?_))
            rw [e2] at h1
            exact Or.inl ((nI_ltI (by omega) (by omega)).mp h1)
          · have old : ∀ n', l3 = nI n' → n' < 2 ^ 28 → n' ≤ n := fun n' e1 e2 => by
              rw [e1] at h1
              exact Nat.le_of_not_lt (fun q => h1 ((nI_ltI (by omega) (by omega)).mpr q))
            have hl3 : ∃ p q n', l1 = nI p ∧ l2 = nI q ∧ l3 = nI n' ∧ n' < 2 ^ 28 ∧ (q < Y ∨ (q = Y ∧ p < i)) ∧ cand R T p q n' ∧ (∀ x y n'', (y < Y ∨ (y = Y ∧ x < i)) → cand R T x y n'' → n' < n'' ∨ (n' = n'' ∧ (p < x ∨ (p = x ∧ q ≤ y)))) := by
              rcases hJ with ⟨j1, j2⟩ | hJ
              · rw [j1] at h1
                exact absurd (nI_lt (by omega) (by omega)) h1
              · exact hJ
            obtain ⟨p, q, n', j1, j2, j3, j4, j5, j6, j7⟩ := hl3
            have hle := old n' j3 j4
            have hp := j6.2.1
            refine rn_ite (fun h2 => ?_) (fun h2 => ?_)
            · have h2 : n ≠ n' := fun e => h2 (by rw [e, j3])
              refine nxt9 _ _ _ (hJ.skip (fun n9 hn9 => ⟨p, q, n', j1, j2, j3, j4, j5, j6, j7, ?_⟩))
              have := dst_fun hc.2.2.2.2 hn9.2.2.2.2
              omega
            · have h2 : n = n' := nI_inj ((Decidable.of_not_not h2).trans j3) (by omega) (by omega)
              refine rn_f (fun q => ?_) ?_
              · have := (nI_leI (a := 268435456) (by decide) (by omega)).mp q
                omega
              · refine rn_ite (fun h3 => ?_) (fun h3 => ?_)
                · rw [j1] at h3
                  have h3 := (nI_leI (by omega) (by omega)).mp h3
                  refine nxt9 _ _ _ (hJ.skip (fun n9 hn9 => ⟨p, q, n', j1, j2, j3, j4, j5, j6, j7, ?_⟩))
                  have := dst_fun hc.2.2.2.2 hn9.2.2.2.2
                  omega
                · refine nxt9 _ _ _ (hJ.take hc r2 (fun p9 q9 n9 e1 e2 _ c9 e3 => ?_))
                  have en : n' = n9 := nI_inj (j3.symm.trans e2) (by omega) (by omega)
                  have hp9 := c9.2.1
                  have ep : p = p9 := nI_inj (j1.symm.trans e1) (by omega) (by omega)
                  have : ¬ p ≤ i := fun q => h3 (by rw [j1]; exact (nI_leI (by omega) (by omega)).mpr q)
                  omega
        · have hno : ∀ n9, ¬ cand R T i Y n9 := fun n9 h9 => by
            obtain ⟨⟨p, hp, _⟩, _⟩ := h9.2.2.2.2
            exact r1 p hp
          rw [r3]
          have hsk := hJ.skip (x0 := i) (y0 := Y) (fun n9 hn9 => absurd hn9 (hno n9))
          refine rn_f (fun h1 => ?_) ?_
          · rcases hJ with ⟨j1, -⟩ | ⟨p, q, n', j1, j2, j3, j4, -⟩
            · rw [j1] at h1
              exact absurd h1 (by decide)
            · rw [j3] at h1
              have := (nI_ltI (a := 268435456) (by decide) (by omega)).mp h1
              omega
          · refine rn_ite (fun _ => nxt9 _ _ _ hsk) (fun _ => ?_)
            exact rn_t (by decide) (nxt9 _ _ _ hsk)
      · refine rn_t q1 ?_
        unfold f_X12_joinsAll_101 f_X12_joinsAll_128 f_X12_joinsAll_137
        rw [nI_1]
        have hsk := hJ.skip (x0 := i) (y0 := Y) (fun n9 hn9 => absurd hn9.1 q2)
        refine rn_f (fun h1 => ?_) ?_
        · rcases hJ with ⟨j1, -⟩ | ⟨p, q, n', j1, j2, j3, j4, -⟩
          · rw [j1] at h1
            exact absurd h1 (by decide)
          · rw [j3] at h1
            have := (nI_ltI (a := 268435456) (by decide) (by omega)).mp h1
            omega
        · refine rn_ite (fun _ => nxt9 _ _ _ hsk) (fun _ => ?_)
          exact rn_t (by decide) (nxt9 _ _ _ hsk)
theorem jy_loop {k14 : Nat → Dt → Option (Int32 × Dt)} (hN1 : 151 ≤ N) (hK : KS sh z) (hN : WN R) (hW : WS R) (hR : RCx d z R) (hT : TM z R d T) (hC : CM d z (rch R T 0)) (hk : ∀ l1 l2 l3, JB R T (2 ^ 28) (fun _ _ => True) l1 l2 l3 → Rn (f_X12_joinsAll_149 N sh k14 (z + 242) l1 l2 l3 d) Q) : ∀ (m i fu : Nat) (l1 l2 l3 : Int32), i + m = nn R 0 → m < fu → JB R T (2 ^ 28) (fun _ y => y < i) l1 l2 l3 → Rn (f_X12_joinsAll_35 N sh k14 fu (z + 242) l1 l2 l3 (nI i) d) Q
  | 0, i, fu, l1, l2, l3, hi, hf, hJ => by
    obtain ⟨fu, rfl⟩ : ∃ q, fu = q + 1 := ⟨fu - 1, by omega⟩
    show Rn (g_X12_joinsAll_35 N sh k14 (f_X12_joinsAll_35 N sh k14 fu) (z + 242) l1 l2 l3 (nI i) d) _
    have n0 := hN.1
    unfold g_X12_joinsAll_35
    refine rdg hK hR.1 0 rfl (by decide) ?_
    rw [n0.1]
    refine rn_t ((nI_leI (by omega) (by omega)).mpr (by omega)) ?_
    refine hk l1 l2 l3 (hJ.cg (fun x y n hc => ⟨fun _ => trivial, fun _ => ?_⟩))
    have := hc.2.2.2.1
    show y < i
    omega
  | m + 1, i, fu, l1, l2, l3, hi, hf, hJ => by
    obtain ⟨fu, rfl⟩ : ∃ q, fu = q + 1 := ⟨fu - 1, by omega⟩
    have ih := jy_loop hN1 hK hN hW hR hT hC hk m (i + 1) fu
    show Rn (g_X12_joinsAll_35 N sh k14 (f_X12_joinsAll_35 N sh k14 fu) (z + 242) l1 l2 l3 (nI i) d) _
    have n0 := hN.1
    unfold g_X12_joinsAll_35
    refine rdg hK hR.1 0 rfl (by decide) ?_
    rw [n0.1]
    refine rn_f (nI_ge (by omega) (by omega)) ?_
    refine rn_bind (m_isApart hN1 hK hN hW hR.1 hT hC (y := i) (by omega)) (fun v hv => ?_)
    exact jx_loop hK hN hR hC (by omega) hv (fun a1 a2 a3 h => ih a1 a2 a3 (by omega) (by omega) h) (nn R 0) 0 N l1 l2 l3 (by omega) (by omega) (hJ.cg (fun x y n _ => ⟨fun r => Or.inl r, fun r => by omega⟩))
/-- what joinsAll() touches -/
def JF (z : Nat) (d d' : Dt) : Prop := d'.2 = d.2 ∧ (∀ a, a ≠ z + 242 → a ≠ z + 251 → a ≠ z + 253 → d'.1 a = d.1 a) ∧ ∀ k, k ≠ 19 → d'.1 (z + 242) k = d.1 (z + 242) k
theorem JF.rf : JF z d d := ⟨rfl, fun _ _ _ _ => rfl, fun _ _ => rfl⟩
theorem JF.tr {d1 d2 : Dt} (h1 : JF z d d1) (h2 : JF z d1 d2) : JF z d d2 := ⟨h2.1.trans h1.1, fun a q1 q2 q3 => (h2.2.1 a q1 q2 q3).trans (h1.2.1 a q1 q2 q3), fun k q => (h2.2.2 k q).trans (h1.2.2 k q)⟩
theorem CF.jf (h : CF z d d') : JF z d d' := ⟨h.1, fun a _ _ q => h.2 a q, fun k _ => by rw [h.2 (z + 242) (by omega)]⟩
theorem TF.jf (h : TF z d d') : JF z d d' := ⟨h.1, fun a _ q _ => h.2 a q, fun k _ => by rw [h.2 (z + 242) (by omega)]⟩
theorem JF.w {v : Int32} : JF z d (wI d (z + 242) 19 v) := ⟨rfl, fun a q _ _ => wI_n q, fun k q => by rw [wI_s, va_up_n q]⟩
theorem JF.rc (h : JF z d d') (hR : RCx d z R) : RCx d' z R := by
  unfold RCx
  rw [h.2.1 (z + 243) (by omega) (by omega) (by omega), h.2.1 (z + 247) (by omega) (by omega) (by omega)]
  exact hR
theorem join_loop (hNf : 2 ^ 40 ≤ N) (hK : KS sh z) (hN : WN R) (hW : WS R) (hR : RCx d0 z R) : ∀ (k fu : Nat) (d : Dt) (T : Nat → Nat), lc R T < k → k ≤ fu → (∀ s, s < nn R 1 → T s + 120 * k ≤ 8000) → JF z d0 d → TV2 z R d T → CM d z (rch R T 0) → Rn (f_X12_joinsAll_14 N sh fu (z + 242) d) (fun r => JF z d0 r.2 ∧ ((joinF R k T = none ∧ r.1 = 0) ∨ ∃ T', joinF R k T = some T' ∧ r.1 = 1 ∧ TV2 z R r.2 T'))
  | 0, fu, d, T, hl, hf, hB, hM, hT, hC => absurd hl (Nat.not_lt_zero _)
  | k + 1, fu, d, T, hl, hf, hB, hM, hT, hC => by
    obtain ⟨fu, rfl⟩ : ∃ q, fu = q + 1 := ⟨fu - 1, by omega⟩
    have ih := join_loop hNf hK hN hW hR k fu
    show Rn (g_X12_joinsAll_14 N sh (f_X12_joinsAll_14 N sh fu) (z + 242) d) _
    have n0 := hN.1.2
    have hRd := hM.rc hR
    have hTM : TM z R d T := fun s hs => ⟨hT s hs, by have := hB s hs; omega⟩
    unfold g_X12_joinsAll_14
    refine r_gP hK 242 12 14 251 rfl (by decide) ?_
    refine rn_bind (m_hasMore (by omega) hK hN hW hRd.1 hTM hC) (fun v hv => ?_)
    unfold joinF
    rcases hv with ⟨rfl, hc⟩ | ⟨rfl, hc⟩
    · refine rn_t rfl ?_
      rw [ite_p hc]
      exact rn_some ⟨hM, Or.inr ⟨T, rfl, rfl, hT⟩⟩
    · refine rn_f (by decide) ?_
      rw [ite_n hc]
      refine jy_loop (by omega) hK hN hW hRd hTM hC (fun l1 l2 l3 hJ => ?_) (nn R 0) 0 N (-1) (-1) (nI (2 ^ 28)) (by omega) (by omega) (Or.inl ⟨rfl, fun x y n h => absurd h (Nat.not_lt_zero y)⟩)
      unfold f_X12_joinsAll_149
      rcases hJ with ⟨j1, j2⟩ | ⟨p, q, n, j1, j2, j3, j4, -, j6, j7⟩
      · rw [j1]
        refine rn_f (by decide) ?_
        rw [ite_n (fun ⟨p, q, n, h, _⟩ => j2 p q n trivial h)]
        exact rn_some ⟨hM, Or.inl ⟨rfl, rfl⟩⟩
      · have hjb : jb R T p q := ⟨n, j6, fun x y n' hc' => j7 x y n' trivial hc'⟩
        rw [j1, j2, j3]
        refine rn_t (nI_lt (b := 268435456) (by omega) (by decide)) ?_
        rw [ite_p ⟨p, q, hjb⟩]
        obtain ⟨a1, a2, a3, a4, a5⟩ := jn1_props hW hN hjb
        have ej : jn1 R T = addL 2 T (wayL R q 60 p) := by
          unfold jn1
          rw [jnP_eq hjb]
        refine rn_bind (m_adds (n9 := 2) hNf hK hN hW hRd j6.2.1 j6.2.2.2.1 j6.2.2.2.2 hT) (fun d1 hd1 => ?_)
        refine r_gI hK (i := 242) (c := 12) rfl ?_
        refine r_pI hK (i := 242) (c := 12) rfl ?_
        refine r_gP hK 242 12 14 251 rfl (by decide) ?_
        have hM1 := (hM.tr hd1.1.jf).tr (JF.w (v := d1.1 (z + 242) 19 + 1))
        have hT1 : TV2 z R (wI d1 (z + 242) 19 (d1.1 (z + 242) 19 + 1)) (jn1 R T) := fun s hs => by
          rw [wI_n (by omega), ej]
          exact hd1.2 s hs
        have hB1 : ∀ s, s < nn R 1 → jn1 R T s + 120 * k ≤ 8000 := fun s hs => by
          have := hB s hs
          have := a2 s
          omega
        refine rn_bind (m_follows (c := 0) hNf hK hN hW (hM1.rc hR).1 (fun s hs => ⟨hT1 s hs, by have := hB1 s hs; omega⟩) (by decide)) (fun d2 hd2 => ?_)
        refine ih d2 (jn1 R T) (by omega) (by omega) hB1 (hM1.tr hd2.1.jf) (fun s hs => ?_) hd2.2
        rw [hd2.1.2 (z + 251) (by omega)]
        exact hT1 s hs
theorem m_joinsAll (hNf : 2 ^ 40 ≤ N) (hK : KS sh z) (hN : WN R) (hW : WS R) (hR : RCx d z R) (hB : ∀ s, s < nn R 1 → T s ≤ 2) (hT : TV2 z R d T) : Rn (f_X12_joinsAll N sh (z + 242) d) (fun r => JF z d r.2 ∧ ((joinF R 60 T = none ∧ r.1 = 0) ∨ ∃ T', joinF R 60 T = some T' ∧ r.1 = 1 ∧ TV2 z R r.2 T')) := by
  unfold f_X12_joinsAll
  refine rn_t (ks_o hK 242 12 rfl) ?_
  refine r_pI hK (i := 242) (c := 12) rfl ?_
  refine r_gP hK 242 12 14 251 rfl (by decide) ?_
  have hM1 : JF z d (wI d (z + 242) 19 0) := JF.w
  have hT1 : TV2 z R (wI d (z + 242) 19 0) T := fun s hs => by
    rw [wI_n (by omega)]
    exact hT s hs
  refine rn_bind (m_follows (c := 0) hNf hK hN hW (hM1.rc hR).1 (fun s hs => ⟨hT1 s hs, by have := hB s hs; omega⟩) (by decide)) (fun d2 hd2 => ?_)
  refine join_loop hNf hK hN hW hR 60 N d2 T (lc_59 hN) (by omega) (fun s hs => by have := hB s hs; omega) (hM1.tr hd2.1.jf) (fun s hs => ?_) hd2.2
  rw [hd2.1.2 (z + 251) (by omega)]
  exact hT1 s hs
end JR
