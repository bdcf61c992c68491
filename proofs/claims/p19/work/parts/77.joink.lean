/-! JOINING, the class -/
def PF (z : Nat) (d d' : Dt) : Prop := d'.2.2 = d.2.2 ∧ (∀ a, a ≠ z + 228 → a ≠ z + 229 → a ≠ z + 232 → d'.1 a = d.1 a) ∧ ∀ a, a ≠ z + 234 → d'.2.1 a = d.2.1 a
def WX (sh : Sh) (d : Dt) (z : Nat) (ow : Nat → Nat) (R : Nat → Int32) (L : Nat → Nat) (M : Nat → Prop) : Prop := SPN d z ∧ TB sh d z ow 4 9 (nn R 1) (vS R) L ∧ HopOK d z R ∧ ∀ b, M b → b < nn R 0 ∧ ∀ a, a < 60 → dOK R 1000000000 a b (d.1 (z + (141 + b)) a)
section JK
variable {β : Type} {Q : Int32 × Dt → Prop} {sh : Sh} {d d0 d' : Dt} {z : Nat} {ow : Nat → Nat} {R K : Nat → Int32} {N b : Nat} {T : Nat → Nat} {L : Nat → Nat} {M : Nat → Prop}
theorem PF.rf : PF z d d := ⟨rfl, fun _ _ _ _ => rfl, fun _ _ => rfl⟩
theorem PF.tr {d1 d2 : Dt} (h1 : PF z d d1) (h2 : PF z d1 d2) : PF z d d2 := ⟨h2.1.trans h1.1, fun a q1 q2 q3 => (h2.2.1 a q1 q2 q3).trans (h1.2.1 a q1 q2 q3), fun a q => (h2.2.2 a q).trans (h1.2.2 a q)⟩
theorem PF.w {i k : Nat} {v : Int32} (hi : i = 228 ∨ i = 229 ∨ i = 232) : PF z d (wI d (z + i) k v) := ⟨rfl, fun a q1 q2 q3 => wI_n (by omega), fun _ _ => rfl⟩
theorem NF.pf (h : NF z d d') : PF z d d' := ⟨h.2.1, fun a _ _ _ => by rw [h.1], h.2.2⟩
set_option maxRecDepth 20000 in
theorem cO_pl {i : Nat} (h : 228 ≤ i) (h2 : i ≤ 234) : cOl.getD i 1 = 0 := by
  have := List.all_eq_true.mp (show (List.range' 228 7).all (fun i => Nat.beq (cOl.getD i 1) 0) = true by decide +kernel) i (List.mem_range'_1.mpr ⟨by omega, by omega⟩)
  exact Nat.eq_of_beq_eq_true this
theorem PF.fd (h : PF z d d') (hw : OWS ow z) : FD (IX z ow 228 234) d d' := fun a ha => by
  have q : ∀ i, 228 ≤ i → i ≤ 234 → a ≠ z + i := fun i h1 h2 e => by
    refine ha ?_
    rw [e]
    unfold IX
    rw [onr_s (hw i (by omega) (cO_pl h1 h2)) (by omega)]
    exact ⟨h1, h2⟩
  exact ⟨h.2.1 a (q 228 (by omega) (by omega)) (q 229 (by omega) (by omega)) (q 232 (by omega) (by omega)), h.2.2 a (q 234 (by omega) (by omega)), by rw [h.1], by rw [h.1]⟩
theorem WX.pf (h : WX sh d z ow R L M) (hN : WN R) (hK : KS sh z) (hw : OWS ow z) (hf : PF z d d') : WX sh d' z ow R L M := by
  obtain ⟨h1, h2, h3, h4⟩ := h
  have r : ∀ i, i < 228 → d'.1 (z + i) = d.1 (z + i) := fun i hi => hf.2.1 (z + i) (by omega) (by omega) (by omega)
  refine ⟨?_, tb_ix (s := (sh, d)) (s' := (sh, d')) h2 hK hw (by decide) ((hf.fd hw).es) (by omega), ⟨fun u v hu hv => ?_, fun u v hv hu => ?_⟩, fun b hb => ⟨(h4 b hb).1, fun a ha => ?_⟩⟩
  · unfold SPN
    rw [hf.1]
    exact h1
  · rw [r (79 + u) (by omega), hf.2.2 (z + 139) (by omega)]
    exact h3.1 u v hu hv
  · rw [hf.2.2 (z + 139) (by omega)]
    exact h3.2 u v hv hu
  · have := (h4 b hb).1
    have := hN.1.2
    rw [r (141 + b) (by omega)]
    exact (h4 b hb).2 a ha
/-- left of the planner, after THE WAY is added -/
theorem addWay_loop {n9 : Nat} {Q : Dt → Prop} (hN2 : 300 ≤ N) (hK : KS sh z) (hw : OWS ow z) (hN : WN R) (hW : WS R) (hX : WX sh d0 z ow R L M) (hb : M b) (hQ : ∀ (d' : Dt) (T' : Nat → Nat), PF z d0 d' → (∀ s, s < nn R 1 → d'.1 (z + 232) s = nI (T' s)) → (∀ a, a ≠ z + 232 → d'.1 a = d0.1 a) → T' = T → Q d') : ∀ (m k fu a : Nat) (d : Dt) (T0 : Nat → Nat) (l5 : Int32), k + m = 60 → m < fu → rk R b m a → a < nn R 0 → ((l5 = -1 ∧ a = b) ∨ (a ≠ b ∧ l5 = nI (nxt R b a).1)) → PF z d0 d → (∀ a, a ≠ z + 232 → d.1 a = d0.1 a) → (∀ s, s < nn R 1 → d.1 (z + 232) s = nI (T0 s)) → addL n9 T0 (wayL R b m a) = T → Rn (f_X5_addWay_18 N sh fu (z + 221) (nI b) (nI n9) (nI a) l5 (nI k) d) Q
  | 0, k, fu, a, d, T0, l5, hk, hf, hr, ha, h5, hM, hM2, hT, hE => by
    obtain ⟨fu, rfl⟩ : ∃ q, fu = q + 1 := ⟨fu - 1, by omega⟩
    show Rn (g_X5_addWay_18 N sh (f_X5_addWay_18 N sh fu) (z + 221) (nI b) (nI n9) (nI a) l5 (nI k) d) _
    unfold g_X5_addWay_18
    refine rn_t ((nI_leI (a := 60) (by omega) (by omega)).mpr (by omega)) ?_
    exact rn_some (hQ d T0 hM hT hM2 hE)
  | m + 1, k, fu, a, d, T0, l5, hk, hf, hr, ha, h5, hM, hM2, hT, hE => by
    obtain ⟨fu, rfl⟩ : ∃ q, fu = q + 1 := ⟨fu - 1, by omega⟩
    have n0 := hN.1.2
    have n1 := hN.2.1.2
    show Rn (g_X5_addWay_18 N sh (f_X5_addWay_18 N sh fu) (z + 221) (nI b) (nI n9) (nI a) l5 (nI k) d) _
    unfold g_X5_addWay_18
    refine rn_f (nI_ge (b := 60) (by omega) (by decide)) ?_
    unfold wayL at hE
    rcases h5 with ⟨e5, e⟩ | ⟨e, e5⟩
    · refine rn_t e5 ?_
      rw [if_pos e] at hE
      exact rn_some (hQ d T0 hM hT hM2 hE)
    · rw [if_neg e] at hE
      obtain ⟨⟨n, hd⟩, hq, hrk⟩ := hr.resolve_left e
      obtain ⟨t1, t2, n', m', t3, t4, t5⟩ := id hq.1
      have hs := t2.1
      rw [e5]
      refine rn_f (nI_m1 (by omega)) ?_
      have hA := ks_a hK 232 0 150 rfl
      refine r_gP hK 221 5 9 232 rfl (by decide) ?_
      refine rn_eq (q_aT hA (nxt R b a).1 rfl (by omega) (by decide)) ?_
      rw [hT _ hs, nI_add]
      refine rn_eq (q_sI hA (nxt R b a).1 rfl (by omega) (by decide)) ?_
      have hM1 : PF z d0 (wI d (z + 232) (nxt R b a).1 (nI (T0 (nxt R b a).1 + n9))) := hM.tr (PF.w (by omega))
      obtain ⟨x1, x2, x3, x4⟩ := hX.pf hN hK hw hM1
      refine r_gP hK 221 5 0 3 rfl (by decide) ?_
      refine rn_eq (k_otherEnd hK x2 hs) ?_
      rw [oth_edge hW hN ha t1 t2]
      refine r_gP hK 221 5 1 77 rfl (by decide) ?_
      obtain ⟨y1, y2⟩ := x4 b hb
      have kn := k_nextStreet (N := N) hN2 hK hN hW x1 x2 x3 y1 y2 t1
      rw [nI_1]
      have hT1 : ∀ s, s < nn R 1 → (wI d (z + 232) (nxt R b a).1 (nI (T0 (nxt R b a).1 + n9))).1 (z + 232) s = nI (va_up T0 (nxt R b a).1 (T0 (nxt R b a).1 + n9) s) := fun s hs9 => by
        rw [wI_s]
        by_cases es : s = (nxt R b a).1
        · rw [es, va_up_s, va_up_s]
        · rw [va_up_n es, va_up_n es]
          exact hT s hs9
      have hM3 : ∀ x, x ≠ z + 232 → (wI d (z + 232) (nxt R b a).1 (nI (T0 (nxt R b a).1 + n9))).1 x = d0.1 x := fun x hx => by
        rw [wI_n hx]
        exact hM2 x hx
      by_cases e2 : (nxt R b a).2 = b
      · refine rn_eq (kn.2 (Or.inl e2)) ?_
        exact addWay_loop hN2 hK hw hN hW hX hb hQ m (k + 1) fu _ _ _ _ (by omega) (by omega) hrk t1 (Or.inl ⟨rfl, e2⟩) hM1 hM3 hT1 hE
      · refine rn_eq (kn.1 ⟨m', t4⟩ e2) ?_
        exact addWay_loop hN2 hK hw hN hW hX hb hQ m (k + 1) fu _ _ _ _ (by omega) (by omega) hrk t1 (Or.inr ⟨e2, rfl⟩) hM1 hM3 hT1 hE
theorem k_addWay {a n n9 : Nat} (hN2 : 300 ≤ N) (hK : KS sh z) (hw : OWS ow z) (hN : WN R) (hW : WS R) (hX : WX sh d z ow R L M) (hb : M b) (ha : a < nn R 0) (hd : dst R a b n) (hT : ∀ s, s < nn R 1 → d.1 (z + 232) s = nI (T s)) : Rn (f_X5_addWay N sh (z + 221) (nI a) (nI b) (nI n9) d) (fun d' => PF z d d' ∧ (∀ s, s < nn R 1 → d'.1 (z + 232) s = nI (addL n9 T (wayL R b 60 a) s)) ∧ ∀ a, a ≠ z + 232 → d'.1 a = d.1 a) := by
  obtain ⟨x1, x2, x3, x4⟩ := id hX
  obtain ⟨y1, y2⟩ := x4 b hb
  have kn := k_nextStreet (N := N) hN2 hK hN hW x1 x2 x3 y1 y2 ha
  unfold f_X5_addWay
  refine rn_t (ks_o hK 221 5 rfl) ?_
  refine r_gP hK 221 5 1 77 rfl (by decide) ?_
  have fin : ∀ l5, ((l5 = -1 ∧ a = b) ∨ (a ≠ b ∧ l5 = nI (nxt R b a).1)) → Rn (f_X5_addWay_18 N sh N (z + 221) (nI b) (nI n9) (nI a) l5 (nI 0) d) (fun d' => PF z d d' ∧ (∀ s, s < nn R 1 → d'.1 (z + 232) s = nI (addL n9 T (wayL R b 60 a) s)) ∧ ∀ a, a ≠ z + 232 → d'.1 a = d.1 a) := fun l5 h5 => addWay_loop (d0 := d) (T := addL n9 T (wayL R b 60 a)) hN2 hK hw hN hW hX hb (fun d' T' h1 h2 h3 h4 => ⟨h1, by rw [← h4]; exact h2, h3⟩) 60 0 N a d T l5 (by omega) (by omega) (rk_60 hW hN hd) ha h5 PF.rf (fun _ _ => rfl) hT rfl
  by_cases e : a = b
  · refine rn_eq (kn.2 (Or.inl e)) ?_
    exact fin _ (Or.inl ⟨rfl, e⟩)
  · refine rn_eq (kn.1 ⟨n, hd⟩ e) ?_
    exact fin _ (Or.inr ⟨e, rfl⟩)
end JK
