section DR2
variable {Q : Dt → Prop} {sh : Sh} {d d0 d' : Dt} {z : Nat} {R K : Nat → Int32} {N c s k : Nat} {T D : Nat → Nat}
/-- what drivesAll() touches -/
def DVF (z : Nat) (d d' : Dt) : Prop := d'.2 = d.2 ∧ (∀ a, a ≠ z + 242 → a ≠ z + 251 → a ≠ z + 253 → a ≠ z + 257 → a ≠ z + 258 → a ≠ z + 259 → a ≠ z + 260 → d'.1 a = d.1 a) ∧ ∀ k, k ≠ 24 → d'.1 (z + 242) k = d.1 (z + 242) k
theorem DVF.rf : DVF z d d := ⟨rfl, fun _ _ _ _ _ _ _ _ => rfl, fun _ _ => rfl⟩
theorem DVF.tr {d1 d2 : Dt} (h1 : DVF z d d1) (h2 : DVF z d1 d2) : DVF z d d2 := ⟨h2.1.trans h1.1, fun a q1 q2 q3 q4 q5 q6 q7 => (h2.2.1 a q1 q2 q3 q4 q5 q6 q7).trans (h1.2.1 a q1 q2 q3 q4 q5 q6 q7), fun k q => (h2.2.2 k q).trans (h1.2.2 k q)⟩
theorem XF.dv (h : XF z d d') : DVF z d d' := ⟨h.1, fun a _ q1 q2 _ _ _ _ => h.2 a q1 q2, fun k _ => by rw [h.2 (z + 242) (by omega) (by omega)]⟩
theorem DF.dv (h : DF z d d') : DVF z d d' := ⟨h.1, fun a q1 _ _ q4 q5 q6 _ => h.2.1 a q1 q4 q5 q6, h.2.2⟩
theorem DVF.w {v : Int32} : DVF z d (wI d (z + 260) k v) := ⟨rfl, fun a _ _ _ _ _ _ q => wI_n q, fun j _ => by rw [wI_n (by omega)]⟩
theorem DVF.ag (h : DVF z d d') (hA : AG (d.1 (z + 243)) R) : AG (d'.1 (z + 243)) R := by
  rw [h.2.1 (z + 243) (by omega) (by omega) (by omega) (by omega) (by omega) (by omega) (by omega)]
  exact hA
theorem smN_0 {f : Nat → Nat} : ∀ n, smN f n = 0 → ∀ i, i < n → f i = 0
  | 0, h, i, hi => absurd hi (Nat.not_lt_zero i)
  | n + 1, h, i, hi => by
    have h : smN f n + f n = 0 := h
    by_cases e : i = n
    · rw [e]
      omega
    · exact smN_0 n (by omega) i (by omega)
theorem dec_sm (hs : s < k) (hp : 0 < T s) : smN (dec1 T s) k + 1 = smN T k := by
  have := smN_up (f := T) (c := s) (v := T s - 1) k hs
  unfold dec1
  omega
theorem dec_le {x : Nat} : dec1 T s x ≤ T x := by
  unfold dec1 va_up
  split
  · rename_i h
    rw [h]
    omega
  · exact Nat.le_refl _
theorem OPT.dec (h : OPT R T) : OPT R (dec1 T s) := fun x hx hp => h x hx (Nat.lt_of_lt_of_le hp dec_le)
theorem drv_loop (hNf : 2 ^ 40 ≤ N) (hK : KS sh z) (hN : WN R) (hW : WS R) (hB : BW R) (hA : AG (d0.1 (z + 243)) R) : ∀ (k fu c : Nat) (d : Dt) (T D E : Nat → Nat) (l : List (Nat × Nat × Nat)) (l2 : Int32), k < fu → smN T (nn R 1) ≤ k → OPT R T → (∀ s, s < nn R 1 → T s ≤ 10000) → c < 60 → DVF z d0 d → TV2 z R d T → DRl z d l → l.length + k < 2 ^ 30 → (∀ s, s < nn R 1 → d.1 (z + 260) s = nI (E s) ∧ E s + k < 2 ^ 30 ∧ (R (16 + 9 * s + 4) = 0 → D s = nn R (16 + 9 * s + 3) - E s)) → ((l2 = -1 ∧ ¬ ∃ s, lvS R T c s) ∨ (l2 = nI (lvN R T c) ∧ ∃ s, lvS R T c s)) → Rn (f_X12_drivesAll_8 N sh fu (z + 242) (nI c) l2 d) (fun d' => DVF z d0 d' ∧ DRl z d' (l ++ drA R k T c D))
  | k, 0, c, d, T, D, E, l, l2, hf, hk, hO, hTb, hc, hM, hT, hD, hL, hE, h2 => absurd hf (Nat.not_lt_zero k)
  | 0, fu + 1, c, d, T, D, E, l, l2, hf, hk, hO, hTb, hc, hM, hT, hD, hL, hE, h2 => by
    show Rn (g_X12_drivesAll_8 N sh (f_X12_drivesAll_8 N sh fu) (z + 242) (nI c) l2 d) _
    unfold g_X12_drivesAll_8
    have hno : ¬ ∃ s, lvS R T c s := fun ⟨s, hs⟩ => by
      have := smN_0 (f := T) (nn R 1) (by omega) s hs.1
      have := hs.2.1
      omega
    rcases h2 with ⟨e, _⟩ | ⟨_, q⟩
    · refine rn_t e ?_
      refine rn_some ⟨hM, ?_⟩
      show DRl z d (l ++ [])
      rw [List.append_nil]
      exact hD
    · exact absurd q hno
  | k + 1, fu + 1, c, d, T, D, E, l, l2, hf, hk, hO, hTb, hc, hM, hT, hD, hL, hE, h2 => by
    have ih := drv_loop hNf hK hN hW hB hA k fu
    show Rn (g_X12_drivesAll_8 N sh (f_X12_drivesAll_8 N sh fu) (z + 242) (nI c) l2 d) _
    have n0 := hN.1.2
    have n1 := hN.2.1.2
    unfold g_X12_drivesAll_8 drA
    rcases h2 with ⟨e, q⟩ | ⟨e, q⟩
    · refine rn_t e ?_
      rw [ite_n q]
      refine rn_some ⟨hM, ?_⟩
      rw [List.append_nil]
      exact hD
    · rw [ite_p q]
      obtain ⟨hs, -⟩ := lvN_ok q
      generalize lvN R T c = s at e hs
      obtain ⟨s1, s2, s3, s4⟩ := hs
      have so := hO s s1 s2
      rw [e]
      refine rn_f (nI_m1 (by omega)) ?_
      have hA9 := hM.ag hA
      obtain ⟨-, -, -, -, e3, e32⟩ := hW s s1
      obtain ⟨en, en2, en3⟩ := hE s s1
      have en3 := en3 so
      refine r_gP hK 242 12 28 260 rfl (by decide) ?_
      refine rn_eq (q_aT (ks_a hK 260 0 150 rfl) s rfl (by omega) (by decide)) ?_
      refine rds hK hA9 3 (by omega) (by decide) rfl ?_
      rw [en, e3]
      have fin : ∀ v : Int32, (if v = 0 then 0 else 1) = (if 0 < D s then 1 else 0) → Rn (f_X12_drivesAll_42 N sh (f_X12_drivesAll_8 N sh fu) (z + 242) (nI c) (nI s) (z + 242) (nI s) (nI c) v d) (fun d' => DVF z d0 d' ∧ DRl z d' (l ++ (s, c, if 0 < D s then 1 else 0) :: drA R k (dec1 T s) (oth R s c) (dec1 D s))) := fun v hv => by
        unfold f_X12_drivesAll_42
        refine rn_bind (m_drive (s := s) (c := c) (v := v) hK (by omega) hD) (fun d1 hd1 => ?_)
        rw [hv] at hd1
        have hM1 := hM.tr hd1.1.dv
        have r260 : d1.1 (z + 260) = d.1 (z + 260) := hd1.1.2.1 _ (by omega) (by omega) (by omega) (by omega)
        have r251 : d1.1 (z + 251) = d.1 (z + 251) := hd1.1.2.1 _ (by omega) (by omega) (by omega) (by omega)
        refine r_gP hK 242 12 28 260 rfl (by decide) ?_
        refine rn_eq (q_aT (ks_a hK 260 0 150 rfl) s rfl (by omega) (by decide)) ?_
        rw [r260, en, nI_1]
        refine rn_eq (q_sI (ks_a hK 260 0 150 rfl) s rfl (by omega) (by decide)) ?_
        refine r_gP hK 242 12 14 251 rfl (by decide) ?_
        refine rn_eq (q_aT (ks_a hK 251 0 150 rfl) s rfl (by omega) (by decide)) ?_
        have e251 : (wI d1 (z + 260) s (nI (E s + 1))).1 (z + 251) s = nI (T s) := by
          rw [wI_n (by omega), r251]
          exact hT s s1
        obtain ⟨w, hw⟩ : ∃ w, T s = w + 1 := ⟨T s - 1, by omega⟩
        rw [e251, hw, nI_pred]
        refine rn_eq (q_sI (ks_a hK 251 0 150 rfl) s rfl (by omega) (by decide)) ?_
        have hM2 := hM1.tr ((DVF.w (k := s) (v := nI (E s + 1))).tr (XF.w (k := s) (v := nI w)).dv)
        have hT2 : TV2 z R (wI (wI d1 (z + 260) s (nI (E s + 1))) (z + 251) s (nI w)) (dec1 T s) := tv_w (T := T) (fun x hx => by
          rw [wI_n (by omega), r251]
          exact hT x hx) (by unfold dec1; rw [hw]; rfl)
        refine rn_eq (m_leads hK (hM2.ag hA) (by omega)) ?_
        rw [ldv_bw hW hN hB s1 so hc, if_pos s3]
        have ho := oth_lt (c := c) hW hN s1
        have hTb2 : ∀ x, x < nn R 1 → dec1 T s x ≤ 10000 := fun x hx => Nat.le_trans dec_le (hTb x hx)
        refine rn_bind (m_nextS (c := oth R s c) hNf hK hN hW hB hO.dec hTb2 (hM2.ag hA) (by omega) hT2) (fun r hr => ?_)
        obtain ⟨x1, x2, x3⟩ := hr
        have hsm := dec_sm (T := T) s1 s2
        have := ih (oth R s c) r.2 (dec1 T s) (dec1 D s) (va_up E s (E s + 1)) (l ++ [(s, c, if 0 < D s then 1 else 0)]) r.1 (by omega) (by omega) hO.dec hTb2 (by omega) (hM2.tr x1.dv) x2 ⟨?_, fun i hi hi2 => ?_⟩ (by simp; omega) (fun x hx => ?_) x3
        · refine rn_mono this (fun d' hd' => ⟨hd'.1, ?_⟩)
          have h9 := hd'.2
          rw [List.append_assoc] at h9
          exact h9
        · rw [x1.2 (z + 242) (by omega) (by omega), wI_n (by omega), wI_n (by omega)]
          exact hd1.2.1
        · rw [x1.2 (z + 257) (by omega) (by omega), wI_n (by omega), wI_n (by omega), x1.2 (z + 258) (by omega) (by omega), wI_n (by omega), wI_n (by omega), x1.2 (z + 259) (by omega) (by omega), wI_n (by omega), wI_n (by omega)]
          exact hd1.2.2 i hi hi2
        · rw [x1.2 (z + 260) (by omega) (by omega), wI_n (by omega), wI_s, r260]
          obtain ⟨y1, y2, y3⟩ := hE x hx
          by_cases ex : x = s
          · subst ex
            rw [va_up_s, va_up_s]
            refine ⟨rfl, by omega, fun _ => ?_⟩
            unfold dec1
            rw [va_up_s]
            omega
          · rw [va_up_n ex, va_up_n ex]
            refine ⟨y1, by omega, fun ho9 => ?_⟩
            unfold dec1
            rw [va_up_n ex]
            exact y3 ho9
      refine rn_ite (fun h1 => ?_) (fun h1 => ?_)
      · have h1 := (nI_leI (by omega) (by omega)).mp h1
        refine fin 0 ?_
        rw [if_pos rfl, if_neg (by omega)]
      · have h1 : ¬ nn R (16 + 9 * s + 3) ≤ E s := fun q => h1 ((nI_leI (by omega) (by omega)).mpr q)
        refine fin 1 ?_
        rw [if_neg (by decide), if_pos (by omega)]
theorem m_drivesAll {E : Nat → Nat} (hNf : 2 ^ 40 ≤ N) (hK : KS sh z) (hN : WN R) (hW : WS R) (hB : BW R) (hO : OPT R T) (hTb : ∀ s, s < nn R 1 → T s ≤ 10000) (hk : smN T (nn R 1) ≤ k) (hk2 : k ≤ 2000) (hA : AG (d.1 (z + 243)) R) (hT : TV2 z R d T) (hD : DRl z d []) (hE : ∀ s, s < nn R 1 → d.1 (z + 260) s = nI (E s) ∧ E s ≤ 10000 ∧ (R (16 + 9 * s + 4) = 0 → D s = nn R (16 + 9 * s + 3) - E s)) : Rn (f_X12_drivesAll N sh (z + 242) d) (fun d' => DVF z d d' ∧ DRl z d' (drA R k T 0 D)) := by
  unfold f_X12_drivesAll
  refine rn_t (ks_o hK 242 12 rfl) ?_
  refine rn_bind (m_nextS (c := 0) hNf hK hN hW hB hO hTb hA (by decide) hT) (fun r hr => ?_)
  obtain ⟨x1, x2, x3⟩ := hr
  refine drv_loop (d0 := d) hNf hK hN hW hB hA k N 0 r.2 T D E [] r.1 (by omega) hk hO hTb (by decide) x1.dv x2 ⟨?_, fun i hi => absurd hi (Nat.not_lt_zero i)⟩ (by simp; omega) (fun s hs => ?_) x3
  · rw [x1.2 (z + 242) (by omega) (by omega)]
    exact hD.1
  · rw [x1.2 (z + 260) (by omega) (by omega)]
    obtain ⟨y1, y2, y3⟩ := hE s hs
    exact ⟨y1, by omega, y3⟩
end DR2
