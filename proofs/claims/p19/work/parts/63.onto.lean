/-! the next STREET of THE WAY to b -/
def tight (R : Nat → Int32) (b u s c : Nat) : Prop := c < nn R 0 ∧ edge R s u c ∧ ∃ n m, dst R u b n ∧ dst R c b m ∧ n = sln R s + m
def nxS (R : Nat → Int32) (b u s c : Nat) : Prop := tight R b u s c ∧ ∀ s' c', tight R b u s' c' → c < c' ∨ (c = c' ∧ s ≤ s')
noncomputable def nxt (R : Nat → Int32) (b u : Nat) : Nat × Nat := Classical.epsilon (fun q : Nat × Nat => nxS R b u q.1 q.2)
/-- THE WAY from u to b, its STREETS -/
noncomputable def wayL (R : Nat → Int32) (b : Nat) : Nat → Nat → List Nat
  | 0, _ => []
  | k + 1, u => if u = b then [] else (nxt R b u).1 :: wayL R b k (nxt R b u).2
/-- from u THE WAY comes to b in k STREETS or less -/
def rk (R : Nat → Int32) (b : Nat) : Nat → Nat → Prop
  | 0, u => u = b
  | k + 1, u => u = b ∨ ((∃ n, dst R u b n) ∧ nxS R b u (nxt R b u).1 (nxt R b u).2 ∧ rk R b k (nxt R b u).2)
theorem least_ex {P : Nat → Prop} : ∀ (B n : Nat), n ≤ B → P n → ∃ m, P m ∧ ∀ k, P k → m ≤ k
  | 0, n, hn, h => ⟨n, h, fun k _ => by omega⟩
  | B + 1, n, hn, h => by
    by_cases q : ∃ k, k < n ∧ P k
    · obtain ⟨k, h1, h2⟩ := q
      exact least_ex B k (by omega) h2
    · exact ⟨n, h, fun k hk => Nat.le_of_not_lt (fun hlt => q ⟨k, hlt, hk⟩)⟩
section NX
variable {β : Type} {Q : β → Prop} {sh : Sh} {d d0 : Dt} {z : Nat} {R K : Nat → Int32} {N b u n : Nat}
theorem nxS_fun {s c s' c' : Nat} (h1 : nxS R b u s c) (h2 : nxS R b u s' c') : s = s' ∧ c = c' := by
  have a1 := h1.2 s' c' h2.1
  have a2 := h2.2 s c h1.1
  omega
theorem tight_ex (h : dst R u b n) (hne : u ≠ b) : ∃ s c, tight R b u s c := by
  obtain ⟨⟨p, hp, hl⟩, hm⟩ := id h
  cases p with
  | nil => exact absurd hp hne
  | cons s p =>
    obtain ⟨c, h1, h2, h3⟩ := hp
    refine ⟨s, c, h1, h2, n, wln R p, h, ⟨⟨p, h3, rfl⟩, fun q hq => ?_⟩, hl.symm⟩
    have := hm (s :: q) ⟨c, h1, h2, hq⟩
    have e : wln R (s :: q) = sln R s + wln R q := rfl
    have e2 : wln R (s :: p) = sln R s + wln R p := rfl
    omega
theorem nxS_ex (h : dst R u b n) (hne : u ≠ b) : ∃ s c, nxS R b u s c := by
  obtain ⟨s, c, ht⟩ := tight_ex h hne
  obtain ⟨c0, ⟨s0, h0⟩, hc⟩ := least_ex (P := fun c => ∃ s, tight R b u s c) c c (Nat.le_refl _) ⟨s, ht⟩
  obtain ⟨s1, h1, hs⟩ := least_ex (P := fun s => tight R b u s c0) s0 s0 (Nat.le_refl _) h0
  refine ⟨s1, c0, h1, fun s' c' h' => ?_⟩
  have q1 := hc c' ⟨s', h'⟩
  by_cases e : c0 = c'
  · subst e
    exact Or.inr ⟨rfl, hs s' h'⟩
  · exact Or.inl (by omega)
theorem nxt_eq {s c : Nat} (h : nxS R b u s c) : nxt R b u = (s, c) := by
  have q := Classical.epsilon_spec (p := fun q : Nat × Nat => nxS R b u q.1 q.2) ⟨(s, c), h⟩
  have e := nxS_fun q h
  exact Prod.ext e.1 e.2
theorem nxt_ok (h : dst R u b n) (hne : u ≠ b) : nxS R b u (nxt R b u).1 (nxt R b u).2 := by
  obtain ⟨s, c, q⟩ := nxS_ex h hne
  rw [nxt_eq q]
  exact q
theorem dst_b : dst R b b 0 := ⟨⟨[], rfl, rfl⟩, fun _ _ => Nat.zero_le _⟩
theorem rk_cnt {g : Nat → Nat} (hW : WS R) (hg : ∀ a m, dst R a b m → g a = m) : ∀ (k u n : Nat), dst R u b n → cnt g n (nn R 0) ≤ k → rk R b k u
  | 0, u, n, hd, hk => by
    by_cases e : u = b
    · exact e
    · obtain ⟨s, c, h1, h2, n', m, h3, h4, h5⟩ := tight_ex hd e
      have := dst_fun hd h3
      have := edge_sln hW h2
      have := cnt_lt (f := g) (t := m) (t' := n) (c := c) (by omega) (by rw [hg c m h4]; exact Nat.le_refl _) (by rw [hg c m h4]; omega) (nn R 0) h1
      omega
  | k + 1, u, n, hd, hk => by
    by_cases e : u = b
    · exact Or.inl e
    · have q := nxt_ok hd e
      obtain ⟨h1, h2, n', m, h3, h4, h5⟩ := q.1
      have := dst_fun hd h3
      have := edge_sln hW h2
      have := cnt_lt (f := g) (t := m) (t' := n) (c := (nxt R b u).2) (by omega) (by rw [hg _ m h4]; exact Nat.le_refl _) (by rw [hg _ m h4]; omega) (nn R 0) h1
      exact Or.inr ⟨⟨n, hd⟩, q, rk_cnt hW hg k _ m h4 (by omega)⟩
theorem rk_60 (hW : WS R) (hN : WN R) (hd : dst R u b n) : rk R b 60 u := by
  refine rk_cnt (g := fun a => Classical.epsilon (fun m => dst R a b m)) hW (fun a m h => ?_) 60 u n hd (Nat.le_trans (cnt_le _) hN.1.2)
  exact dst_fun (Classical.epsilon_spec (p := fun m => dst R a b m) ⟨m, h⟩) h
theorem wayL_more : ∀ (k j u : Nat), rk R b k u → k ≤ j → wayL R b j u = wayL R b k u
  | 0, 0, u, h, hj => rfl
  | 0, j + 1, u, h, hj => if_pos h
  | k + 1, 0, u, h, hj => absurd hj (Nat.not_succ_le_zero k)
  | k + 1, j + 1, u, h, hj => by
    show (if u = b then [] else (nxt R b u).1 :: wayL R b j (nxt R b u).2) = (if u = b then [] else (nxt R b u).1 :: wayL R b k (nxt R b u).2)
    by_cases e : u = b
    · rw [if_pos e, if_pos e]
    · rw [if_neg e, if_neg e, wayL_more k j _ (h.resolve_left e).2.2 (by omega)]
/-- where a STREET leads from u -/
theorem ldv_edge {s : Nat} (hW : WS R) (hN : WN R) (hs : s < nn R 1) (ho : R (16 + 9 * s + 4) = 0) (hu : u < nn R 0) : (∃ c, c < nn R 0 ∧ ldv R s (nI u) = nI c ∧ edge R s u c ∧ ∀ c', c' < 2 ^ 31 → edge R s u c' → c' = c) ∨ (ldv R s (nI u) = -1 ∧ ∀ c', ¬ edge R s u c') := by
  have n0 := hN.1.2
  obtain ⟨⟨ea, eb, ea2, eb2, hne, e7, e8⟩, -, e5, -, -⟩ := hW s hs
  unfold ldv
  rw [e7, e8]
  by_cases h1 : nI ea = nI u
  · rw [if_pos h1]
    have q := nI_inj h1 (by omega) (by omega)
    subst q
    refine Or.inl ⟨eb, eb2, rfl, ⟨hs, ho, Or.inl ⟨e7, e8⟩⟩, fun c' hc' he => ?_⟩
    rcases he.2.2 with ⟨_, q2⟩ | ⟨_, q1, _⟩
    · rw [e8] at q2
      exact (nI_inj q2 (by omega) hc').symm
    · rw [e8] at q1
      exact absurd (nI_inj q1 (by omega) (by omega)).symm hne
  · rw [if_neg h1]
    by_cases h2 : nI eb = nI u ∧ R (16 + 9 * s + 5) = 0
    · rw [if_pos h2]
      have q := nI_inj h2.1 (by omega) (by omega)
      subst q
      refine Or.inl ⟨ea, ea2, rfl, ⟨hs, ho, Or.inr ⟨h2.2, e8, e7⟩⟩, fun c' hc' he => ?_⟩
      rcases he.2.2 with ⟨q1, _⟩ | ⟨_, _, q2⟩
      · rw [e7] at q1
        exact absurd q1 h1
      · rw [e7] at q2
        exact (nI_inj q2 (by omega) hc').symm
    · rw [if_neg h2]
      refine Or.inr ⟨rfl, fun c' he => ?_⟩
      rcases he.2.2 with ⟨q1, _⟩ | ⟨q0, q1, _⟩
      · rw [e7] at q1
        exact h1 q1
      · rw [e8] at q1
        exact h2 ⟨q1, q0⟩
theorem nI_m1 {c : Nat} (hc : c < 2 ^ 31) : nI c ≠ (-1 : Int32) := fun e => nI_pos hc (by rw [e]; decide)
theorem ti_iff {s c : Nat} {x y : Int32} (hW : WS R) (hc : c < nn R 0) (he : edge R s u c) (hd : dst R u b n) (hx : dOK R 268435456 u b x) (hy : dOK R 268435456 c b y) : nI (sln R s) + y = x ↔ tight R b u s c := by
  have hl := edge_sln hW he
  rcases hx with ⟨n', h1, h2, rfl⟩ | ⟨h1, _⟩
  · have en := dst_fun hd h1
    subst en
    rcases hy with ⟨m, h3, h4, rfl⟩ | ⟨h3, rfl⟩
    · rw [nI_add]
      refine ⟨fun q => ⟨hc, he, n, m, h1, h3, (nI_inj q (by omega) (by omega)).symm⟩, fun q => ?_⟩
      obtain ⟨_, _, n', m', r1, r2, r3⟩ := q
      rw [dst_fun h1 r1, dst_fun h3 r2, r3]
    · rw [nI_add]
      refine ⟨fun q => ?_, fun q => ?_⟩
      · have := nI_inj q (by omega) (by omega)
        omega
      · obtain ⟨_, _, n', m', r1, ⟨⟨p, r2, _⟩, _⟩, r3⟩ := q
        exact absurd r2 (h3 p)
  · obtain ⟨⟨p, q, _⟩, _⟩ := hd
    exact absurd q (h1 p)
/-- the best STREET of those below i -/
def OB (R : Nat → Int32) (b u i : Nat) (l3 l4 : Int32) : Prop := (l3 = -1 ∧ l4 = 60 ∧ ∀ s c, s < i → ¬ tight R b u s c) ∨ ∃ s0 c0, l3 = nI s0 ∧ l4 = nI c0 ∧ s0 < i ∧ tight R b u s0 c0 ∧ ∀ s c, s < i → tight R b u s c → c0 < c ∨ (c0 = c ∧ s0 ≤ s)
theorem OB.skip {i : Nat} {l3 l4 : Int32} (h : OB R b u i l3 l4) (hs : ∀ c, ¬ tight R b u i c) : OB R b u (i + 1) l3 l4 := by
  rcases h with ⟨h1, h2, h3⟩ | ⟨s0, c0, h1, h2, h3, h4, h5⟩
  · refine Or.inl ⟨h1, h2, fun s c hi => ?_⟩
    by_cases e : s = i
    · rw [e]
      exact hs c
    · exact h3 s c (by omega)
  · refine Or.inr ⟨s0, c0, h1, h2, by omega, h4, fun s c hi ht => ?_⟩
    by_cases e : s = i
    · rw [e] at ht
      exact absurd ht (hs c)
    · exact h5 s c (by omega) ht
theorem onTo_loop (hK : KS sh z) (hN : WN R) (hW : WS R) (hA : AG (d.1 (z + 243)) R) (hfar : ∀ a b, a < nn R 0 → b < nn R 0 → dOK R 268435456 a b (d.1 (z + 247) (60 * a + b))) (hu : u < nn R 0) (hb : b < nn R 0) (hd : dst R u b n) : ∀ (m i fu : Nat) (l3 l4 : Int32), i + m = nn R 1 → m < fu → OB R b u i l3 l4 → Rn (f_X12_onTo_9 N sh d fu (z + 242) (nI u) (nI b) l3 l4 (nI i)) (fun r => ∃ l4, OB R b u (nn R 1) r l4)
  | 0, i, fu, l3, l4, hi, hf, hO => by
    obtain ⟨fu, rfl⟩ : ∃ q, fu = q + 1 := ⟨fu - 1, by omega⟩
    show Rn (g_X12_onTo_9 N sh (f_X12_onTo_9 N sh d fu) (z + 242) (nI u) (nI b) l3 l4 (nI i) d) _
    have n1 := hN.2.1
    unfold g_X12_onTo_9
    refine rdg hK hA 1 rfl (by decide) ?_
    rw [n1.1]
    refine rn_t ((nI_leI (by omega) (by omega)).mpr (by omega)) ?_
    have e : i = nn R 1 := by omega
    subst e
    exact rn_some ⟨l4, hO⟩
  | m + 1, i, fu, l3, l4, hi, hf, hO => by
    obtain ⟨fu, rfl⟩ : ∃ q, fu = q + 1 := ⟨fu - 1, by omega⟩
    have ih := onTo_loop hK hN hW hA hfar hu hb hd m (i + 1) fu
    show Rn (g_X12_onTo_9 N sh (f_X12_onTo_9 N sh d fu) (z + 242) (nI u) (nI b) l3 l4 (nI i) d) _
    have n0 := hN.1.2
    have n1 := hN.2.1
    have his : i < nn R 1 := by omega
    have hF := ks_a hK 247 0 3600 rfl
    unfold g_X12_onTo_9
    refine rdg hK hA 1 rfl (by decide) ?_
    rw [n1.1]
    refine rn_f (nI_ge his (by omega)) ?_
    refine rn_eq (m_isOpen hK hA (by omega)) ?_
    have skip : (∀ c, ¬ tight R b u i c) → Rn (f_X12_onTo_40 N sh (f_X12_onTo_9 N sh d fu) (z + 242) (nI u) (nI b) l3 l4 (nI i) (-1) d) (fun r => ∃ l4, OB R b u (nn R 1) r l4) := fun hs => by
      unfold f_X12_onTo_40
      refine rn_t rfl ?_
      unfold f_X12_onTo_103
      rw [nI_1]
      exact ih l3 l4 (by omega) (by omega) (hO.skip hs)
    by_cases ho : R (16 + 9 * i + 4) = 0
    · rw [if_pos ho]
      refine rn_f (by decide) ?_
      refine rn_eq (m_leads hK hA (by omega)) ?_
      rcases ldv_edge hW hN his ho hu with ⟨c, hc, e1, e2, e3⟩ | ⟨e1, e2⟩
      · rw [e1]
        unfold f_X12_onTo_40 f_X12_onTo_103
        refine rn_f (nI_m1 (by omega)) ?_
        rw [nI_1]
        refine rn_ite (fun hle => ?_) (fun hle => ?_)
        · refine ih l3 l4 (by omega) (by omega) ?_
          rcases hO with ⟨h1, h2, h3⟩ | ⟨s0, c0, h1, h2, h3, h4, h5⟩
          · rw [h2] at hle
            have := (nI_leI (a := 60) (b := c) (by omega) (by omega)).mp hle
            omega
          · refine Or.inr ⟨s0, c0, h1, h2, by omega, h4, fun s c' hs ht => ?_⟩
            by_cases es : s = i
            · subst es
              have ec := e3 c' (by have := ht.1; omega) ht.2.1
              subst ec
              rw [h2] at hle
              have hc0 := h4.1
              have := (nI_leI (by omega) (by omega)).mp hle
              omega
            · exact h5 s c' (by omega) ht
        · refine rds hK hA 6 (by omega) (by decide) rfl ?_
          rw [(hW i his).2.1.1]
          refine r_gP hK 242 12 9 247 rfl (by decide) ?_
          refine rn_eq (q_aT hF (60 * c + b) (ix_far c b) (by omega) (by decide)) ?_
          refine r_gP hK 242 12 9 247 rfl (by decide) ?_
          refine rn_eq (q_aT hF (60 * u + b) (ix_far u b) (by omega) (by decide)) ?_
          have hti := ti_iff hW hc e2 hd (hfar u b hu hb) (hfar c b hc hb)
          refine rn_ite (fun hq => ?_) (fun hq => ?_)
          · refine ih l3 l4 (by omega) (by omega) (hO.skip (fun c' ht => ?_))
            have ec := e3 c' (by have := ht.1; omega) ht.2.1
            subst ec
            exact hq (hti.mpr ht)
          · have ht := hti.mp (Decidable.of_not_not hq)
            refine ih (nI i) (nI c) (by omega) (by omega) (Or.inr ⟨i, c, rfl, rfl, by omega, ht, fun s c' hs ht' => ?_⟩)
            by_cases es : s = i
            · subst es
              have ec := e3 c' (by have := ht'.1; omega) ht'.2.1
              omega
            · rcases hO with ⟨h1, h2, h3⟩ | ⟨s0, c0, h1, h2, h3, h4, h5⟩
              · exact absurd ht' (h3 s c' (by omega))
              · have q := h5 s c' (by omega) ht'
                rw [h2] at hle
                have hc0 := h4.1
                have : ¬ c0 ≤ c := fun q => hle ((nI_leI (by omega) (by omega)).mpr q)
                omega
      · rw [e1]
        exact skip (fun c ht => e2 c ht.2.1)
    · rw [if_neg ho]
      refine rn_t rfl ?_
      exact skip (fun c ht => ho ht.2.1.2.1)
theorem m_onTo (hN1 : 151 ≤ N) (hK : KS sh z) (hN : WN R) (hW : WS R) (hA : AG (d.1 (z + 243)) R) (hfar : ∀ a b, a < nn R 0 → b < nn R 0 → dOK R 268435456 a b (d.1 (z + 247) (60 * a + b))) (hu : u < nn R 0) (hb : b < nn R 0) (hd : dst R u b n) (hne : u ≠ b) : f_X12_onTo N sh (z + 242) (nI u) (nI b) d = some (nI (nxt R b u).1) := by
  have n1 := hN.2.1.2
  refine rn_val ?_
  unfold f_X12_onTo
  refine rn_t (ks_o hK 242 12 rfl) ?_
  refine rn_mono (onTo_loop hK hN hW hA hfar hu hb hd (nn R 1) 0 N (-1) 60 (by omega) (by omega) (Or.inl ⟨rfl, rfl, fun s c hs => absurd hs (Nat.not_lt_zero s)⟩)) (fun r hr => ?_)
  obtain ⟨l4, hO⟩ := hr
  have q := nxt_ok hd hne
  rcases hO with ⟨h1, h2, h3⟩ | ⟨s0, c0, h1, h2, h3, h4, h5⟩
  · exact absurd q.1 (h3 _ _ q.1.2.1.1)
  · have := nxt_eq (R := R) (b := b) (u := u) (s := s0) (c := c0) ⟨h4, fun s' c' h' => h5 s' c' h'.2.1.1 h'⟩
    rw [this]
    exact h1
/-- leads() behind onTo() -/
theorem nxt_leads (hW : WS R) (hN : WN R) (hu : u < nn R 0) (h : nxS R b u (nxt R b u).1 (nxt R b u).2) : ldv R (nxt R b u).1 (nI u) = nI (nxt R b u).2 := by
  have n0 := hN.1.2
  obtain ⟨h1, h2, -⟩ := h.1
  rcases ldv_edge hW hN h2.1 h2.2.1 hu with ⟨c, hc, e1, e2, e3⟩ | ⟨e1, e2⟩
  · rw [e1, e3 _ (by omega) h2]
  · exact absurd h2 (e2 _)
end NX
