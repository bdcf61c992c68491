section RK2
variable {β : Type} {Q : Dt → Prop} {sh : Sh} {d d0 : Dt} {z : Nat} {R K : Nat → Int32} {u : Bool} {N b : Nat} {f : Nat → Nat}
theorem reck_while (hN1 : 151 ≤ N) (hK : KS sh z) (hN : WN R) (hW : WS R) (hA : AG (d0.1 (z + 243)) R) (hb : b < nn R 0) (hk : ∀ (d' : Dt) (f' : Nat → Nat), RX d' z R b f' → MWb z b d0 d' → FE R f' (nn R 1) → Q d') : ∀ (B fu : Nat) (d : Dt) (f : Nat → Nat) (v : Int32), smN f (nn R 0) + (if v = 0 then 0 else 1) < B → B ≤ fu → RX d z R b f → MWb z b d0 d → ((v = 0 ∧ FE R f (nn R 1)) ∨ v = 1) → Rn (f_X12_reckonTo_42 N sh fu (z + 242) (nI b) v d) Q
  | 0, fu, d, f, v, h1, h2, hX, hM, hv => absurd h1 (Nat.not_lt_zero _)
  | B + 1, fu, d, f, v, h1, h2, hX, hM, hv => by
    obtain ⟨fu, rfl⟩ : ∃ q, fu = q + 1 := ⟨fu - 1, by omega⟩
    show Rn (g_X12_reckonTo_42 N sh (f_X12_reckonTo_42 N sh fu) (z + 242) (nI b) v d) Q
    have n1 := hN.2.1.2
    unfold g_X12_reckonTo_42
    rcases hv with hv | hv
    · refine rn_t hv.1 ?_
      exact rn_some (hk d f hX hM hv.2)
    · subst hv
      refine rn_f (by decide) ?_
      rw [if_neg (by decide)] at h1
      refine reck_pass (f0 := f) hK hN hW hA hb (fun v d' f' X' M' q => ?_) (nn R 1) 0 N d f 0 (by omega) (by omega) hX hM (Or.inl ⟨rfl, rfl, fun s a c hs => absurd hs (Nat.not_lt_zero s)⟩)
      rcases q with q | q
      · refine reck_while hN1 hK hN hW hA hb hk B fu d' f' v ?_ (by omega) X' M' (Or.inl ⟨q.1, q.2.2⟩)
        rw [if_pos q.1, q.2.1]
        omega
      · refine reck_while hN1 hK hN hW hA hb hk B fu d' f' v ?_ (by omega) X' M' (Or.inr q.1)
        rw [if_neg (by rw [q.1]; decide)]
        omega
theorem reck_init (hNf : 2 ^ 40 ≤ N) (hK : KS sh z) (hN : WN R) (hW : WS R) (hA : AG (d0.1 (z + 243)) R) (hb : b < nn R 0) (hk : ∀ (d' : Dt) (f' : Nat → Nat), RX d' z R b f' → MWb z b d0 d' → FE R f' (nn R 1) → Q d') : ∀ (m i fu : Nat) (d : Dt), i + m = nn R 0 → m < fu → MWb z b d0 d → (∀ a, a < i → d.1 (z + 247) (60 * a + b) = nI (if a = b then 0 else 2 ^ 28)) → Rn (f_X12_reckonTo_2 N sh fu (z + 242) (nI b) (nI i) d) Q
  | 0, i, fu, d, hi, hf, hM, hv => by
    obtain ⟨fu, rfl⟩ : ∃ q, fu = q + 1 := ⟨fu - 1, by omega⟩
    show Rn (g_X12_reckonTo_2 N sh (f_X12_reckonTo_2 N sh fu) (z + 242) (nI b) (nI i) d) Q
    have n0 := hN.1
    unfold g_X12_reckonTo_2
    refine rdg hK (hM.ag hA) 0 rfl (by decide) ?_
    rw [n0.1]
    refine rn_t ((nI_leI (by omega) (by omega)).mpr (by omega)) ?_
    unfold f_X12_reckonTo_40
    have hs : ∀ n, n ≤ 60 → smN (fun a => if a = b then 0 else 2 ^ 28) n ≤ 60 * 2 ^ 28 := fun n hn => by
      have q := smN_le (f := fun a => if a = b then 0 else 2 ^ 28) (g := fun _ => 2 ^ 28) n (fun k _ => by
        show (if k = b then 0 else 2 ^ 28) ≤ 2 ^ 28
        split <;> omega)
      rw [smN_const] at q
      exact Nat.le_trans q (Nat.mul_le_mul_right _ hn)
    refine reck_while (by omega) hK hN hW hA hb hk (60 * 2 ^ 28 + 2) N d (fun a => if a = b then 0 else 2 ^ 28) 1 ?_ (by omega) ⟨if_pos rfl, fun a ha => ⟨hv a (by omega), ?_, fun q1 q2 => ?_⟩⟩ hM (Or.inr rfl)
    · have := hs (nn R 0) n0.2
      rw [if_neg (by decide)]
      omega
    · show (if a = b then 0 else 2 ^ 28) ≤ 2 ^ 28
      split <;> omega
    · have q2 : (if a = b then 0 else 2 ^ 28) < 2 ^ 28 := q2
      rw [if_neg q1] at q2
      omega
  | m + 1, i, fu, d, hi, hf, hM, hv => by
    obtain ⟨fu, rfl⟩ : ∃ q, fu = q + 1 := ⟨fu - 1, by omega⟩
    have ih := reck_init hNf hK hN hW hA hb hk m (i + 1) fu
    show Rn (g_X12_reckonTo_2 N sh (f_X12_reckonTo_2 N sh fu) (z + 242) (nI b) (nI i) d) Q
    have n0 := hN.1
    have hF := ks_a hK 247 0 3600 rfl
    unfold g_X12_reckonTo_2
    refine rdg hK (hM.ag hA) 0 rfl (by decide) ?_
    rw [n0.1]
    refine rn_f (nI_ge (by omega) (by omega)) ?_
    refine r_gP hK 242 12 9 247 rfl (by decide) ?_
    have go : ∀ w : Nat, w = (if i = b then 0 else 2 ^ 28) → Rn (f_X12_reckonTo_33 N sh (f_X12_reckonTo_2 N sh fu) (z + 242) (nI b) (nI i) (z + 247) ((60 : Int32) * nI i + nI b) (nI w) d) Q := fun w hw => by
      unfold f_X12_reckonTo_33
      refine rn_eq (q_sI hF (60 * i + b) (ix_far i b) (by omega) (by decide)) ?_
      rw [nI_1]
      refine ih _ (by omega) (by omega) (hM.tr (MWb.w (by omega))) (fun a ha => ?_)
      rw [wI_s]
      by_cases e : a = i
      · subst e
        rw [va_up_s, hw]
      · rw [va_up_n (by omega)]
        exact hv a (by omega)
    refine rn_ite (fun h1 => ?_) (fun h1 => ?_)
    · exact go (2 ^ 28) (by rw [if_neg (fun e => h1 (by rw [e]))])
    · exact go 0 (by rw [if_pos (nI_inj (Decidable.of_not_not h1) (by omega) (by omega))])
theorem m_reckonTo (hNf : 2 ^ 40 ≤ N) (hK : KS sh z) (hN : WN R) (hW : WS R) (hA : AG (d.1 (z + 243)) R) (hb : b < nn R 0) : Rn (f_X12_reckonTo N sh (z + 242) (nI b) d) (fun d' => MWb z b d d' ∧ ∀ a, a < nn R 0 → dOK R 268435456 a b (d'.1 (z + 247) (60 * a + b))) := by
  have n0 := hN.1.2
  unfold f_X12_reckonTo
  refine rn_t (ks_o hK 242 12 rfl) ?_
  refine reck_init (d0 := d) hNf hK hN hW hA hb (fun d' f' X' M' F' => ⟨M', fun a ha => ?_⟩) (nn R 0) 0 N d (by omega) (by omega) MWb.rf (fun a h => absurd h (Nat.not_lt_zero a))
  have q := dst_of (F := 2 ^ 28) hW hN hb X'.1 (fun a ha hab hlt => by
    obtain ⟨s, c, r1, r2, r3, r4⟩ := (X'.2 a ha).2.2 hab hlt
    have := F' s a c r2.1 ha r1 r2
    exact ⟨s, c, r1, r2, by omega⟩) (fun s a c ha hc he _ => F' s a c he.1 ha hc he) (by omega) a ha
  obtain ⟨x1, x2, -⟩ := X'.2 a ha
  rcases Nat.lt_or_ge (f' a) (2 ^ 28) with h | h
  · exact Or.inl ⟨f' a, (q.1 h).1, h, x1⟩
  · refine Or.inr ⟨q.2 h, ?_⟩
    rw [x1, show f' a = 268435456 by omega]
/-- reckon() touches its table and its mark alone -/
def RKF (z : Nat) (d d' : Dt) : Prop := d'.2 = d.2 ∧ (∀ a, a ≠ z + 242 → a ≠ z + 247 → d'.1 a = d.1 a) ∧ ∀ k, k ≠ 10 → d'.1 (z + 242) k = d.1 (z + 242) k
theorem RKF.rf : RKF z d d := ⟨rfl, fun _ _ _ => rfl, fun _ _ => rfl⟩
theorem RKF.mfr {d' : Dt} (h : RKF z d d') : MFR z d d' := ⟨by rw [h.1], by rw [h.1], fun a q => ⟨h.2.1 a (by omega) (by omega), by rw [h.1]⟩⟩
theorem RKF.mw {d1 d2 : Dt} (h : RKF z d d1) (h2 : MWb z b d1 d2) : RKF z d d2 := ⟨h2.1.trans h.1, fun a q1 q2 => (h2.2.1 a q2).trans (h.2.1 a q1 q2), fun k q => by rw [h2.2.1 (z + 242) (by omega)]; exact h.2.2 k q⟩
theorem RKF.ag {d' : Dt} (h : RKF z d d') (hA : AG (d.1 (z + 243)) R) : AG (d'.1 (z + 243)) R := by
  rw [h.2.1 (z + 243) (by omega) (by omega)]
  exact hA
theorem reckon_loop (hNf : 2 ^ 40 ≤ N) (hK : KS sh z) (hN : WN R) (hW : WS R) (hA : AG (d0.1 (z + 243)) R) : ∀ (m i fu : Nat) (d : Dt), i + m = nn R 0 → m < fu → RKF z d0 d → (∀ a b, a < nn R 0 → b < i → dOK R 268435456 a b (d.1 (z + 247) (60 * a + b))) → Rn (f_X12_reckon_9 N sh fu (z + 242) (nI i) d) (fun d' => RKF z d0 d' ∧ d'.1 (z + 242) 10 = 1 ∧ ∀ a b, a < nn R 0 → b < nn R 0 → dOK R 268435456 a b (d'.1 (z + 247) (60 * a + b)))
  | 0, i, fu, d, hi, hf, hM, hv => by
    obtain ⟨fu, rfl⟩ : ∃ q, fu = q + 1 := ⟨fu - 1, by omega⟩
    show Rn (g_X12_reckon_9 N sh (f_X12_reckon_9 N sh fu) (z + 242) (nI i) d) _
    have n0 := hN.1
    unfold g_X12_reckon_9
    refine rdg hK (hM.ag hA) 0 rfl (by decide) ?_
    rw [n0.1]
    refine rn_t ((nI_leI (by omega) (by omega)).mpr (by omega)) ?_
    unfold f_X12_reckon_30
    refine r_pI hK (i := 242) (c := 12) rfl ?_
    refine rn_some ⟨⟨hM.1, fun a q1 q2 => ?_, fun k q => ?_⟩, ?_, fun a b ha hb => ?_⟩
    · rw [wI_n q1]
      exact hM.2.1 a q1 q2
    · rw [wI_s, va_up_n q]
      exact hM.2.2 k q
    · rw [wI_s, va_up_s]
    · rw [wI_n (by omega)]
      exact hv a b ha (by omega)
  | m + 1, i, fu, d, hi, hf, hM, hv => by
    obtain ⟨fu, rfl⟩ : ∃ q, fu = q + 1 := ⟨fu - 1, by omega⟩
    have ih := reckon_loop hNf hK hN hW hA m (i + 1) fu
    show Rn (g_X12_reckon_9 N sh (f_X12_reckon_9 N sh fu) (z + 242) (nI i) d) _
    have n0 := hN.1
    unfold g_X12_reckon_9
    refine rdg hK (hM.ag hA) 0 rfl (by decide) ?_
    rw [n0.1]
    refine rn_f (nI_ge (by omega) (by omega)) ?_
    refine rn_bind (m_reckonTo hNf hK hN hW (hM.ag hA) (b := i) (by omega)) (fun d1 hd => ?_)
    rw [nI_1]
    refine ih d1 (by omega) (by omega) (hM.mw hd.1) (fun a b ha hb => ?_)
    by_cases e : b = i
    · subst e
      exact hd.2 a ha
    · rw [hd.1.2.2 (60 * a + b) (fun a' ha' => by omega)]
      exact hv a b ha (by omega)
theorem m_reckon (hNf : 2 ^ 40 ≤ N) (hK : KS sh z) (h : RI d z R K u) (hR : WF R) : Rn (f_X12_reckon N sh (z + 242) d) (fun d' => RKF z d d' ∧ RI d' z R K u ∧ ∀ a b, a < nn R 0 → b < nn R 0 → dOK R 268435456 a b (d'.1 (z + 247) (60 * a + b))) := by
  have n0 := hR.1.1.2
  obtain ⟨h1, h2, h3, ⟨g, h4, h5⟩, h6⟩ := id h
  unfold f_X12_reckon
  refine rn_t (ks_o hK 242 12 rfl) ?_
  refine r_gI hK (i := 242) (c := 12) rfl ?_
  rcases h6 with h6 | h6
  · refine rn_f (fun q => q h6) ?_
    refine rn_mono (reckon_loop (d0 := d) hNf hK hR.1 hR.2.2.1 h1 (nn R 0) 0 N d (by omega) (by omega) RKF.rf (fun a b _ hb => absurd hb (Nat.not_lt_zero b))) (fun d' hd => ?_)
    obtain ⟨r1, r2, r3⟩ := hd
    refine ⟨r1, ⟨r1.ag h1, ?_, ?_, ⟨g, h4, ?_⟩, Or.inr ⟨r2, r3⟩⟩, r3⟩
    · rw [r1.2.1 (z + 244) (by omega) (by omega)]
      exact h2
    · rw [r1.2.2 2 (by decide)]
      exact h3
    · rw [r1.2.2 8 (by decide)]
      exact h5
  · refine rn_t (by rw [h6.1]; decide) ?_
    exact rn_some ⟨RKF.rf, h, h6.2⟩
end RK2
