/-! the DRIVES of (A), the reference -/
def oth (R : Nat → Int32) (s c : Nat) : Nat := if eA R s = c then eB R s else eA R s
def dec1 (T : Nat → Nat) (s : Nat) : Nat → Nat := va_up T s (T s - 1)
def lvS (R : Nat → Int32) (T : Nat → Nat) (c s : Nat) : Prop := s < nn R 1 ∧ 0 < T s ∧ (eA R s = c ∨ eB R s = c) ∧ conn R (dec1 T s) (oth R s c)
noncomputable def lvN (R : Nat → Int32) (T : Nat → Nat) (c : Nat) : Nat := Classical.epsilon (fun s => lvS R T c s ∧ ∀ s', lvS R T c s' → s ≤ s')
noncomputable def drA (R : Nat → Int32) : Nat → (Nat → Nat) → Nat → (Nat → Nat) → List (Nat × Nat × Nat)
  | 0, _, _, _ => []
  | k + 1, T, c, D => @ite _ (∃ s, lvS R T c s) (Classical.propDecidable _) ((lvN R T c, c, if 0 < D (lvN R T c) then 1 else 0) :: drA R k (dec1 T (lvN R T c)) (oth R (lvN R T c) c) (dec1 D (lvN R T c))) []
section DR
variable {β : Type} {Q : Dt → Prop} {sh : Sh} {d d0 d' : Dt} {z : Nat} {R K : Nat → Int32} {N c s k : Nat} {T D : Nat → Nat}
theorem lvN_ok (h : ∃ s, lvS R T c s) : lvS R T c (lvN R T c) ∧ ∀ s', lvS R T c s' → lvN R T c ≤ s' := by
  obtain ⟨s, hs⟩ := h
  obtain ⟨m, h1, h2⟩ := least_ex (P := fun s => lvS R T c s) s s (Nat.le_refl _) hs
  exact Classical.epsilon_spec (p := fun s => lvS R T c s ∧ ∀ s', lvS R T c s' → s ≤ s') ⟨m, h1, h2⟩
theorem lvN_eq (h : lvS R T c s) (hl : ∀ s', s' < s → ¬ lvS R T c s') : lvN R T c = s := by
  have q := lvN_ok ⟨s, h⟩
  have := q.2 s h
  rcases Nat.lt_or_ge (lvN R T c) s with r | r
  · exact absurd q.1 (hl _ r)
  · omega
theorem ldv_bw (hW : WS R) (hN : WN R) (hB : BW R) (hs : s < nn R 1) (ho : R (16 + 9 * s + 4) = 0) (hc : c < 60) : ldv R s (nI c) = if eA R s = c ∨ eB R s = c then nI (oth R s c) else -1 := by
  have n0 := hN.1.2
  obtain ⟨e7, a2, e8, b2, hne⟩ := ws_e hW hN hs
  have e5 := hB s hs ho
  unfold ldv oth
  rw [e7, e8, e5]
  by_cases h1 : eA R s = c
  · rw [if_pos (by rw [h1]), if_pos (Or.inl h1), if_pos h1]
  · rw [if_neg (fun q => h1 (nI_inj q (by omega) (by omega)))]
    by_cases h2 : eB R s = c
    · rw [if_pos ⟨by rw [h2], rfl⟩, if_pos (Or.inr h2), if_neg h1]
    · rw [if_neg (fun q => h2 (nI_inj q.1 (by omega) (by omega))), if_neg (fun q => q.elim h1 h2)]
theorem oth_lt (hW : WS R) (hN : WN R) (hs : s < nn R 1) : oth R s c < nn R 0 := by
  obtain ⟨e7, a2, e8, b2, hne⟩ := ws_e hW hN hs
  unfold oth
  split <;> assumption
/-- what nextStreet() touches -/
def XF (z : Nat) (d d' : Dt) : Prop := d'.2 = d.2 ∧ ∀ a, a ≠ z + 251 → a ≠ z + 253 → d'.1 a = d.1 a
theorem XF.rf : XF z d d := ⟨rfl, fun _ _ _ => rfl⟩
theorem XF.tr {d1 d2 : Dt} (h1 : XF z d d1) (h2 : XF z d1 d2) : XF z d d2 := ⟨h2.1.trans h1.1, fun a q1 q2 => (h2.2 a q1 q2).trans (h1.2 a q1 q2)⟩
theorem XF.w {k : Nat} {v : Int32} : XF z d (wI d (z + 251) k v) := ⟨rfl, fun a q _ => wI_n q⟩
theorem CF.xf (h : CF z d d') : XF z d d' := ⟨h.1, fun a _ q => h.2 a q⟩
theorem XF.ag (h : XF z d d') (hA : AG (d.1 (z + 243)) R) : AG (d'.1 (z + 243)) R := by
  rw [h.2 (z + 243) (by omega) (by omega)]
  exact hA
theorem tv_w {n : Nat} {T' : Nat → Nat} (hT : TV2 z R d T) (h : T' = va_up T s n) : TV2 z R (wI d (z + 251) s (nI n)) T' := fun x hx => by
  rw [wI_s, h]
  by_cases e : x = s
  · rw [e, va_up_s, va_up_s]
  · rw [va_up_n e, va_up_n e]
    exact hT x hx
theorem nxs_loop (hNf : 2 ^ 40 ≤ N) (hK : KS sh z) (hN : WN R) (hW : WS R) (hB : BW R) (hO : OPT R T) (hTb : ∀ s, s < nn R 1 → T s ≤ 10000) (hA : AG (d0.1 (z + 243)) R) (hc : c < 60) : ∀ (m i fu : Nat) (d : Dt), i + m = nn R 1 → m < fu → XF z d0 d → TV2 z R d T → (∀ s, s < i → ¬ lvS R T c s) → Rn (f_X12_nextStreet_2 N sh fu (z + 242) (nI c) (nI i) d) (fun r => XF z d0 r.2 ∧ TV2 z R r.2 T ∧ ((r.1 = -1 ∧ ¬ ∃ s, lvS R T c s) ∨ (r.1 = nI (lvN R T c) ∧ ∃ s, lvS R T c s)))
  | 0, i, fu, d, hi, hf, hM, hT, hl => by
    obtain ⟨fu, rfl⟩ : ∃ q, fu = q + 1 := ⟨fu - 1, by omega⟩
    show Rn (g_X12_nextStreet_2 N sh (f_X12_nextStreet_2 N sh fu) (z + 242) (nI c) (nI i) d) _
    have n1 := hN.2.1
    unfold g_X12_nextStreet_2
    refine rdg hK (hM.ag hA) 1 rfl (by decide) ?_
    rw [n1.1]
    refine rn_t ((nI_leI (by omega) (by omega)).mpr (by omega)) ?_
    exact rn_some ⟨hM, hT, Or.inl ⟨rfl, fun ⟨s, hs⟩ => hl s (by have := hs.1; omega) hs⟩⟩
  | m + 1, i, fu, d, hi, hf, hM, hT, hl => by
    obtain ⟨fu, rfl⟩ : ∃ q, fu = q + 1 := ⟨fu - 1, by omega⟩
    have ih := nxs_loop hNf hK hN hW hB hO hTb hA hc m (i + 1) fu
    show Rn (g_X12_nextStreet_2 N sh (f_X12_nextStreet_2 N sh fu) (z + 242) (nI c) (nI i) d) _
    have n0 := hN.1.2
    have n1 := hN.2.1
    have his : i < nn R 1 := by omega
    have hT9 := ks_a hK 251 0 150 rfl
    have hb := hTb i his
    have skip : ¬ lvS R T c i → ∀ d, XF z d0 d → TV2 z R d T → Rn (f_X12_nextStreet_2 N sh fu (z + 242) (nI c) (nI (i + 1)) d) (fun r => XF z d0 r.2 ∧ TV2 z R r.2 T ∧ ((r.1 = -1 ∧ ¬ ∃ s, lvS R T c s) ∨ (r.1 = nI (lvN R T c) ∧ ∃ s, lvS R T c s))) := fun hn d hM hT => ih d (by omega) (by omega) hM hT (fun s hs => by
      by_cases e : s = i
      · rw [e]
        exact hn
      · exact hl s (by omega))
    unfold g_X12_nextStreet_2
    refine rdg hK (hM.ag hA) 1 rfl (by decide) ?_
    rw [n1.1]
    refine rn_f (nI_ge his (by omega)) ?_
    refine r_gP hK 242 12 14 251 rfl (by decide) ?_
    refine rn_eq (q_aT hT9 i rfl (by omega) (by decide)) ?_
    rw [hT i his]
    have sk31 : ¬ lvS R T c i → Rn (f_X12_nextStreet_31 N sh (f_X12_nextStreet_2 N sh fu) (z + 242) (nI c) (nI i) (-1) d) (fun r => XF z d0 r.2 ∧ TV2 z R r.2 T ∧ ((r.1 = -1 ∧ ¬ ∃ s, lvS R T c s) ∨ (r.1 = nI (lvN R T c) ∧ ∃ s, lvS R T c s))) := fun hn => by
      unfold f_X12_nextStreet_31 f_X12_nextStreet_91
      rw [nI_1]
      exact rn_t rfl (skip hn d hM hT)
    refine rn_ite (fun h1 => ?_) (fun h1 => ?_)
    · refine sk31 (fun q => ?_)
      exact absurd h1 (nI_nle q.2.1 (by omega))
    · have h1 : 0 < T i := by
        rcases Nat.eq_zero_or_pos (T i) with q | q
        · rw [q] at h1
          exact absurd (by decide) h1
        · exact q
      refine rn_eq (m_leads hK (hM.ag hA) (by omega)) ?_
      rw [ldv_bw hW hN hB his (hO i his h1) hc]
      by_cases hin : eA R i = c ∨ eB R i = c
      · rw [if_pos hin]
        have ho := oth_lt (c := c) hW hN his
        unfold f_X12_nextStreet_31
        refine rn_f (nI_m1 (by omega)) ?_
        refine r_gP hK 242 12 14 251 rfl (by decide) ?_
        refine rn_eq (q_aT hT9 i rfl (by omega) (by decide)) ?_
        obtain ⟨w, hw⟩ : ∃ w, T i = w + 1 := ⟨T i - 1, by omega⟩
        rw [hT i his, hw, nI_pred]
        refine rn_eq (q_sI hT9 i rfl (by omega) (by decide)) ?_
        refine r_gP hK 242 12 14 251 rfl (by decide) ?_
        have hM1 := hM.tr (XF.w (k := i) (v := nI w))
        have hT1 : TV2 z R (wI d (z + 251) i (nI w)) (dec1 T i) := tv_w hT (by unfold dec1; rw [hw]; rfl)
        have hTM1 : TM z R (wI d (z + 251) i (nI w)) (dec1 T i) := fun s hs => ⟨hT1 s hs, by
          have := hTb s hs
          unfold dec1 va_up
          split <;> omega⟩
        refine rn_bind (m_follows (c := oth R i c) hNf hK hN hW (hM1.ag hA) hTM1 (by omega)) (fun d2 hd2 => ?_)
        refine r_gP hK 242 12 14 251 rfl (by decide) ?_
        have hM2 := hM1.tr hd2.1.xf
        have hTM2 := hd2.1.tm hTM1
        refine rn_bind (m_hasMore (by omega) hK hN hW (hM2.ag hA) hTM2 hd2.2) (fun v hv => ?_)
        have hback : ∀ t : Int32, (t = 0 ∧ ¬ lvS R T c i) ∨ (t = 1 ∧ lvS R T c i) → Rn (f_X12_nextStreet_72 N sh (f_X12_nextStreet_2 N sh fu) (z + 242) (nI c) (nI i) t d2) (fun r => XF z d0 r.2 ∧ TV2 z R r.2 T ∧ ((r.1 = -1 ∧ ¬ ∃ s, lvS R T c s) ∨ (r.1 = nI (lvN R T c) ∧ ∃ s, lvS R T c s))) := fun t ht => by
          unfold f_X12_nextStreet_72 f_X12_nextStreet_91 f_X12_nextStreet_89
          refine r_gP hK 242 12 14 251 rfl (by decide) ?_
          refine rn_eq (q_aT hT9 i rfl (by omega) (by decide)) ?_
          have e1 : d2.1 (z + 251) i = nI w := by
            rw [hd2.1.2 (z + 251) (by omega), wI_s, va_up_s]
          rw [e1, nI_1, nI_1]
          refine rn_eq (q_sI hT9 i rfl (by omega) (by decide)) ?_
          have hM3 := hM2.tr (XF.w (k := i) (v := nI (w + 1)))
          have hT3 : TV2 z R (wI d2 (z + 251) i (nI (w + 1))) T := tv_w (T := dec1 T i) (fun s hs => (hTM2 s hs).1) (by
            funext x
            unfold dec1
            by_cases ex : x = i
            · rw [ex, va_up_s, hw]
            · rw [va_up_n ex, va_up_n ex])
          rcases ht with ⟨rfl, ht⟩ | ⟨rfl, ht⟩
          · exact rn_t rfl (skip ht _ hM3 hT3)
          · refine rn_f (by decide) ?_
            refine rn_some ⟨hM3, hT3, Or.inr ⟨?_, i, ht⟩⟩
            rw [lvN_eq ht hl]
        rcases hv with ⟨rfl, hv⟩ | ⟨rfl, hv⟩
        · refine rn_f (fun q => q rfl) ?_
          exact hback 1 (Or.inr ⟨rfl, his, h1, hin, hv⟩)
        · refine rn_t (by decide) ?_
          exact hback 0 (Or.inl ⟨rfl, fun q => hv q.2.2.2⟩)
      · rw [if_neg hin]
        exact sk31 (fun q => hin q.2.2.1)
theorem m_nextS (hNf : 2 ^ 40 ≤ N) (hK : KS sh z) (hN : WN R) (hW : WS R) (hB : BW R) (hO : OPT R T) (hTb : ∀ s, s < nn R 1 → T s ≤ 10000) (hA : AG (d.1 (z + 243)) R) (hc : c < 60) (hT : TV2 z R d T) : Rn (f_X12_nextStreet N sh (z + 242) (nI c) d) (fun r => XF z d r.2 ∧ TV2 z R r.2 T ∧ ((r.1 = -1 ∧ ¬ ∃ s, lvS R T c s) ∨ (r.1 = nI (lvN R T c) ∧ ∃ s, lvS R T c s))) := by
  have n1 := hN.2.1.2
  unfold f_X12_nextStreet
  refine rn_t (ks_o hK 242 12 rfl) ?_
  exact nxs_loop (d0 := d) hNf hK hN hW hB hO hTb hA hc (nn R 1) 0 N d (by omega) (by omega) XF.rf hT (fun s hs => absurd hs (Nat.not_lt_zero s))
/-- the DRIVES so far -/
def DRl (z : Nat) (d : Dt) (l : List (Nat × Nat × Nat)) : Prop := d.1 (z + 242) 24 = nI l.length ∧ ∀ i, i < l.length → i < 2000 → d.1 (z + 257) i = nI (l.getD i (0, 0, 0)).1 ∧ d.1 (z + 258) i = nI (l.getD i (0, 0, 0)).2.1 ∧ d.1 (z + 259) i = nI (l.getD i (0, 0, 0)).2.2
def DF (z : Nat) (d d' : Dt) : Prop := d'.2 = d.2 ∧ (∀ a, a ≠ z + 242 → a ≠ z + 257 → a ≠ z + 258 → a ≠ z + 259 → d'.1 a = d.1 a) ∧ ∀ k, k ≠ 24 → d'.1 (z + 242) k = d.1 (z + 242) k
theorem getD_app {l : List (Nat × Nat × Nat)} {x e : Nat × Nat × Nat} {i : Nat} (hi : i < l.length) : (l ++ [x]).getD i e = l.getD i e := by
  simp [List.getD, List.getElem?_append_left hi]
theorem getD_last {l : List (Nat × Nat × Nat)} {x e : Nat × Nat × Nat} : (l ++ [x]).getD l.length e = x := by
  simp [List.getD]
theorem m_drive {l : List (Nat × Nat × Nat)} {v : Int32} (hK : KS sh z) (hL : l.length < 2 ^ 30) (hD : DRl z d l) : Rn (f_X12_drive N sh (z + 242) (nI s) (nI c) v d) (fun d' => DF z d d' ∧ DRl z d' (l ++ [(s, c, if v = 0 then 0 else 1)])) := by
  have hlen : ∀ x : Nat × Nat × Nat, (l ++ [x]).length = l.length + 1 := fun x => by simp
  have h48 : ∀ (x : Nat × Nat × Nat) (d1 : Dt), DF z d d1 → d1.1 (z + 242) 24 = nI l.length → (∀ i, i < l.length + 1 → i < 2000 → d1.1 (z + 257) i = nI ((l ++ [x]).getD i (0, 0, 0)).1 ∧ d1.1 (z + 258) i = nI ((l ++ [x]).getD i (0, 0, 0)).2.1 ∧ d1.1 (z + 259) i = nI ((l ++ [x]).getD i (0, 0, 0)).2.2) → Rn (f_X12_drive_48 N sh (z + 242) d1) (fun d' => DF z d d' ∧ DRl z d' (l ++ [x])) := fun x d1 hf h24 hr => by
    unfold f_X12_drive_48
    refine r_gI hK (i := 242) (c := 12) rfl ?_
    refine r_pI hK (i := 242) (c := 12) rfl ?_
    rw [h24, nI_1]
    refine rn_some ⟨⟨hf.1, fun a q1 q2 q3 q4 => ?_, fun k q => ?_⟩, ?_, fun i hi hi2 => ?_⟩
    · rw [wI_n q1]
      exact hf.2.1 a q1 q2 q3 q4
    · rw [wI_s, va_up_n q]
      exact hf.2.2 k q
    · rw [wI_s, va_up_s, hlen]
    · rw [hlen] at hi
      rw [wI_n (by omega), wI_n (by omega), wI_n (by omega)]
      exact hr i hi hi2
  unfold f_X12_drive
  refine rn_t (ks_o hK 242 12 rfl) ?_
  refine r_gI hK (i := 242) (c := 12) rfl ?_
  rw [hD.1]
  refine rn_ite (fun h1 => ?_) (fun h1 => ?_)
  · have h1 := (nI_leI (a := 2000) (by decide) (by omega)).mp h1
    refine h48 _ d ⟨rfl, fun _ _ _ _ _ => rfl, fun _ _ => rfl⟩ hD.1 (fun i hi hi2 => ?_)
    rw [getD_app (by omega)]
    exact hD.2 i (by omega) hi2
  · have h1 : l.length < 2000 := Nat.lt_of_not_le (fun q => h1 ((nI_leI (a := 2000) (by decide) (by omega)).mpr q))
    have e24 : ∀ (d1 : Dt) (i k : Nat) (w : Int32), 243 ≤ i → (wI d1 (z + i) k w).1 (z + 242) = d1.1 (z + 242) := fun d1 i k w hi => wI_n (by omega)
    refine r_gP hK 242 12 25 257 rfl (by decide) ?_
    refine r_gI hK (i := 242) (c := 12) rfl ?_
    rw [hD.1]
    refine rn_eq (q_sI (ks_a hK 257 0 2000 rfl) l.length rfl h1 (by decide)) ?_
    refine r_gP hK 242 12 26 258 rfl (by decide) ?_
    refine r_gI hK (i := 242) (c := 12) rfl ?_
    rw [e24 _ _ _ _ (by decide), hD.1]
    refine rn_eq (q_sI (ks_a hK 258 0 2000 rfl) l.length rfl h1 (by decide)) ?_
    refine r_gP hK 242 12 27 259 rfl (by decide) ?_
    refine r_gI hK (i := 242) (c := 12) rfl ?_
    rw [e24 _ _ _ _ (by decide), e24 _ _ _ _ (by decide), hD.1]
    have fin : ∀ w : Nat, Rn (f_X12_drive_47 N sh (z + 242) (z + 259) (nI l.length) (nI w) (wI (wI d (z + 257) l.length (nI s)) (z + 258) l.length (nI c))) (fun d' => DF z d d' ∧ DRl z d' (l ++ [(s, c, w)])) := fun w => by
      unfold f_X12_drive_47
      refine rn_eq (q_sI (ks_a hK 259 0 2000 rfl) l.length rfl h1 (by decide)) ?_
      refine h48 (s, c, w) _ ⟨rfl, fun a q1 q2 q3 q4 => by rw [wI_n q4, wI_n q3, wI_n q2], fun k q => by rw [wI_n (by omega), wI_n (by omega), wI_n (by omega)]⟩ ?_ (fun i hi hi2 => ?_)
      · rw [wI_n (by omega), wI_n (by omega), wI_n (by omega)]
        exact hD.1
      · have x7 : (wI (wI (wI d (z + 257) l.length (nI s)) (z + 258) l.length (nI c)) (z + 259) l.length (nI w)).1 (z + 257) = va_up (d.1 (z + 257)) l.length (nI s) := by
          rw [wI_n (by omega), wI_n (by omega), wI_s]
        have x8 : (wI (wI (wI d (z + 257) l.length (nI s)) (z + 258) l.length (nI c)) (z + 259) l.length (nI w)).1 (z + 258) = va_up (d.1 (z + 258)) l.length (nI c) := by
          rw [wI_n (by omega), wI_s, wI_n (by omega)]
        have x9 : (wI (wI (wI d (z + 257) l.length (nI s)) (z + 258) l.length (nI c)) (z + 259) l.length (nI w)).1 (z + 259) = va_up (d.1 (z + 259)) l.length (nI w) := by
          rw [wI_s, wI_n (by omega), wI_n (by omega)]
        rw [x7, x8, x9]
        by_cases e : i = l.length
        · rw [e, va_up_s, va_up_s, va_up_s, getD_last]
          exact ⟨rfl, rfl, rfl⟩
        · rw [va_up_n e, va_up_n e, va_up_n e, getD_app (by omega)]
          exact hD.2 i (by omega) hi2
    refine rn_ite (fun h2 => ?_) (fun h2 => ?_)
    · rw [if_pos h2]
      exact fin 0
    · rw [if_neg h2]
      exact fin 1
end DR
