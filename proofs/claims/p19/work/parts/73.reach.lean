/-! what can be come to along STREETS with TIMES above 0 -/
def eA (R : Nat → Int32) (s : Nat) : Nat := nn R (16 + 9 * s + 7)
def eB (R : Nat → Int32) (s : Nat) : Nat := nn R (16 + 9 * s + 8)
def adj (R : Nat → Int32) (T : Nat → Nat) (u v : Nat) : Prop := ∃ s, s < nn R 1 ∧ 0 < T s ∧ ((eA R s = u ∧ eB R s = v) ∨ (eA R s = v ∧ eB R s = u))
def rchN (R : Nat → Int32) (T : Nat → Nat) : Nat → Nat → Nat → Prop
  | 0, u, v => u = v
  | k + 1, u, v => ∃ w, adj R T u w ∧ rchN R T k w v
def rch (R : Nat → Int32) (T : Nat → Nat) (u v : Nat) : Prop := ∃ k, rchN R T k u v
/-- all that is left can be come to from c -/
def conn (R : Nat → Int32) (T : Nat → Nat) (c : Nat) : Prop := ∀ s, s < nn R 1 → 0 < T s → rch R T c (eA R s)
section RC
variable {β : Type} {Q : Dt → Prop} {sh : Sh} {d d0 d' : Dt} {z : Nat} {R K : Nat → Int32} {N c : Nat} {T C : Nat → Nat}
theorem ws_e {s : Nat} (hW : WS R) (hN : WN R) (hs : s < nn R 1) : R (16 + 9 * s + 7) = nI (eA R s) ∧ eA R s < nn R 0 ∧ R (16 + 9 * s + 8) = nI (eB R s) ∧ eB R s < nn R 0 ∧ eA R s ≠ eB R s := by
  have n0 := hN.1.2
  obtain ⟨⟨ea, eb, ea2, eb2, hne, e7, e8⟩, -⟩ := hW s hs
  have q1 : eA R s = ea := by
    unfold eA nn
    rw [e7, nI_clamp (by omega)]
  have q2 : eB R s = eb := by
    unfold eB nn
    rw [e8, nI_clamp (by omega)]
  rw [q1, q2]
  exact ⟨e7, ea2, e8, eb2, hne⟩
theorem adj_sy {u v : Nat} (h : adj R T u v) : adj R T v u := by
  obtain ⟨s, h1, h2, h3⟩ := h
  exact ⟨s, h1, h2, h3.symm⟩
theorem rch_rf {u : Nat} : rch R T u u := ⟨0, rfl⟩
theorem rchN_snoc : ∀ (k u v w : Nat), rchN R T k u v → adj R T v w → rchN R T (k + 1) u w
  | 0, u, v, w, h, ha => by
    have h : u = v := h
    subst h
    exact ⟨w, ha, rfl⟩
  | k + 1, u, v, w, h, ha => by
    obtain ⟨x, h1, h2⟩ := h
    exact ⟨x, h1, rchN_snoc k x v w h2 ha⟩
theorem rch_step {u v w : Nat} (h : rch R T u v) (ha : adj R T v w) : rch R T u w := by
  obtain ⟨k, hk⟩ := h
  exact ⟨k + 1, rchN_snoc k u v w hk ha⟩
theorem rchN_cl {P : Nat → Prop} (hP : ∀ u v, adj R T u v → P u → P v) : ∀ (k u v : Nat), rchN R T k u v → P u → P v
  | 0, u, v, h, hu => by
    have h : u = v := h
    rw [← h]
    exact hu
  | k + 1, u, v, h, hu => by
    obtain ⟨x, h1, h2⟩ := h
    exact rchN_cl hP k x v h2 (hP u x h1 hu)
theorem rch_cl {P : Nat → Prop} {u v : Nat} (hP : ∀ u v, adj R T u v → P u → P v) (h : rch R T u v) (hu : P u) : P v := by
  obtain ⟨k, hk⟩ := h
  exact rchN_cl hP k u v hk hu
theorem rch_tr {u v w : Nat} (h1 : rch R T u v) (h2 : rch R T v w) : rch R T u w := rch_cl (P := fun x => rch R T u x) (fun a b ha hu => rch_step hu ha) h2 h1
theorem adj_lt {u v : Nat} (hW : WS R) (hN : WN R) (h : adj R T u v) : u < nn R 0 ∧ v < nn R 0 := by
  obtain ⟨s, h1, h2, h3⟩ := h
  obtain ⟨-, q1, -, q2, -⟩ := ws_e hW hN h1
  omega
theorem rch_lt {u v : Nat} (hW : WS R) (hN : WN R) (h : rch R T u v) (hu : u < nn R 0) : v < nn R 0 := rch_cl (P := fun x => x < nn R 0) (fun a b ha _ => (adj_lt hW hN ha).2) h hu
theorem adj_mono {T' : Nat → Nat} {u v : Nat} (hT : ∀ s, s < nn R 1 → 0 < T s → 0 < T' s) (h : adj R T u v) : adj R T' u v := by
  obtain ⟨s, h1, h2, h3⟩ := h
  exact ⟨s, h1, hT s h1 h2, h3⟩
theorem rch_mono {T' : Nat → Nat} {u v : Nat} (hT : ∀ s, s < nn R 1 → 0 < T s → 0 < T' s) (h : rch R T u v) : rch R T' u v := rch_cl (P := fun x => rch R T' u x) (fun a b ha hu => rch_step hu (adj_mono hT ha)) h rch_rf
/-- TIMES of the reference -/
def TM (z : Nat) (R : Nat → Int32) (d : Dt) (T : Nat → Nat) : Prop := ∀ s, s < nn R 1 → d.1 (z + 251) s = nI (T s) ∧ T s < 2 ^ 30
def CX2 (d : Dt) (z : Nat) (C : Nat → Nat) : Prop := ∀ v, v < 60 → d.1 (z + 253) v = nI (C v) ∧ C v ≤ 1
/-- only what was come to is touched -/
def CF (z : Nat) (d d' : Dt) : Prop := d'.2 = d.2 ∧ ∀ a, a ≠ z + 253 → d'.1 a = d.1 a
theorem CF.rf : CF z d d := ⟨rfl, fun _ _ => rfl⟩
theorem CF.tr {d1 d2 : Dt} (h1 : CF z d d1) (h2 : CF z d1 d2) : CF z d d2 := ⟨h2.1.trans h1.1, fun a q => (h2.2 a q).trans (h1.2 a q)⟩
theorem CF.w {k : Nat} {v : Int32} : CF z d (wI d (z + 253) k v) := ⟨rfl, fun a q => wI_n q⟩
theorem CF.ag (h : CF z d d') (hA : AG (d.1 (z + 243)) R) : AG (d'.1 (z + 243)) R := by
  rw [h.2 (z + 243) (by omega)]
  exact hA
theorem CF.tm (h : CF z d d') (hT : TM z R d T) : TM z R d' T := fun s hs => by
  rw [h.2 (z + 251) (by omega)]
  exact hT s hs
theorem CF.mfr (h : CF z d d') : MFR z d d' := ⟨by rw [h.1], by rw [h.1], fun a q => ⟨h.2 a (by omega), by rw [h.1]⟩⟩
theorem nar_b : vp_nar .boolean (1 : Int32) = 1 ∧ vp_nar .boolean (0 : Int32) = 0 := by decide
theorem cx_up {v : Nat} (h : CX2 d z C) (hv : v < 60) : CX2 (wI d (z + 253) v (vp_nar .boolean 1)) z (va_up C v 1) := fun x hx => by
  rw [nar_b.1, wI_s]
  by_cases e : x = v
  · rw [e, va_up_s, va_up_s]
    exact ⟨rfl, Nat.le_refl _⟩
  · rw [va_up_n e, va_up_n e]
    exact h x hx
/-- the STREETS below i join only what is alike -/
def CLO (R : Nat → Int32) (T C : Nat → Nat) (i : Nat) : Prop := ∀ s, s < i → 0 < T s → C (eA R s) = C (eB R s)
theorem foll_pass {k32 : Nat → Nat → Int32 → Dt → Option Dt} {C0 : Nat → Nat} (hK : KS sh z) (hN : WN R) (hW : WS R) (hA : AG (d0.1 (z + 243)) R) (hT : TM z R d0 T)
    (hk : ∀ (v : Int32) (d' : Dt) (C' : Nat → Nat), CX2 d' z C' → CF z d0 d' → (∀ x, x < 60 → C' x = 1 → rch R T c x) → C' c = 1 → ((v = 0 ∧ smN C' 60 = smN C0 60 ∧ CLO R T C' (nn R 1)) ∨ (v = 1 ∧ smN C0 60 < smN C' 60)) → Rn (k32 (z + 242) (z + 251) v d') Q) :
    ∀ (m i fu : Nat) (d : Dt) (C : Nat → Nat) (v : Int32), i + m = nn R 1 → m < fu → CX2 d z C → CF z d0 d → (∀ x, x < 60 → C x = 1 → rch R T c x) → C c = 1 → ((v = 0 ∧ smN C 60 = smN C0 60 ∧ CLO R T C i) ∨ (v = 1 ∧ smN C0 60 < smN C 60)) → Rn (f_X12_follows_41 N sh k32 fu (z + 242) (z + 251) v (nI i) d) Q
  | 0, i, fu, d, C, v, hi, hf, hX, hM, hr, hc, hv => by
    obtain ⟨fu, rfl⟩ : ∃ q, fu = q + 1 := ⟨fu - 1, by omega⟩
    show Rn (g_X12_follows_41 N sh k32 (f_X12_follows_41 N sh k32 fu) (z + 242) (z + 251) v (nI i) d) Q
    have n1 := hN.2.1
    unfold g_X12_follows_41
    refine rdg hK (hM.ag hA) 1 rfl (by decide) ?_
    rw [n1.1]
    have e : i = nn R 1 := by omega
    subst e
    refine rn_t ((nI_leI (by omega) (by omega)).mpr (Nat.le_refl _)) ?_
    exact hk v d C hX hM hr hc hv
  | m + 1, i, fu, d, C, v, hi, hf, hX, hM, hr, hc, hv => by
    obtain ⟨fu, rfl⟩ : ∃ q, fu = q + 1 := ⟨fu - 1, by omega⟩
    have ih := foll_pass hK hN hW hA hT hk m (i + 1) fu
    show Rn (g_X12_follows_41 N sh k32 (f_X12_follows_41 N sh k32 fu) (z + 242) (z + 251) v (nI i) d) Q
    have n0 := hN.1.2
    have n1 := hN.2.1
    have his : i < nn R 1 := by omega
    have hAd := hM.ag hA
    obtain ⟨e7, a2, e8, b2, hne⟩ := ws_e hW hN his
    have hC := ks_a hK 253 4 60 rfl
    unfold g_X12_follows_41
    refine rdg hK hAd 1 rfl (by decide) ?_
    rw [n1.1]
    refine rn_f (nI_ge his (by omega)) ?_
    refine rds hK hAd 7 (by omega) (by decide) rfl ?_
    refine rds hK hAd 8 (by omega) (by decide) rfl ?_
    refine rn_eq (q_aT (ks_a hK 251 0 150 rfl) i rfl (by omega) (by decide)) ?_
    obtain ⟨ht, ht2⟩ := hM.tm hT i his
    rw [ht, e7, e8]
    unfold f_X12_follows_126
    rw [nI_1]
    refine rn_ite (fun h1 => ?_) (fun h1 => ?_)
    · have h1 : T i = 0 := by
        rcases Nat.eq_zero_or_pos (T i) with q | q
        · exact q
        · exact absurd h1 (nI_nle q (by omega))
      refine ih d C v (by omega) (by omega) hX hM hr hc ?_
      rcases hv with hv | hv
      · refine Or.inl ⟨hv.1, hv.2.1, fun s hs hp => ?_⟩
        by_cases e : s = i
        · rw [e, h1] at hp
          omega
        · exact hv.2.2 s (by omega) hp
      · exact Or.inr hv
    · have h1 : 0 < T i := by
        rcases Nat.eq_zero_or_pos (T i) with q | q
        · rw [q] at h1
          exact absurd (by decide) h1
        · exact q
      refine r_gP hK 242 12 17 253 rfl (by decide) ?_
      refine rn_eq (q_aT hC (eA R i) rfl (by omega) (by decide)) ?_
      refine r_gP hK 242 12 17 253 rfl (by decide) ?_
      refine rn_eq (q_aT hC (eB R i) rfl (by omega) (by decide)) ?_
      obtain ⟨xa, xa2⟩ := hX (eA R i) (by omega)
      obtain ⟨xb, xb2⟩ := hX (eB R i) (by omega)
      rw [xa, xb]
      refine rn_ite (fun h2 => ?_) (fun h2 => ?_)
      · have h2 := nI_inj h2 (by omega) (by omega)
        refine ih d C v (by omega) (by omega) hX hM hr hc ?_
        rcases hv with hv | hv
        · refine Or.inl ⟨hv.1, hv.2.1, fun s hs hp => ?_⟩
          by_cases e : s = i
          · rw [e]
            exact h2
          · exact hv.2.2 s (by omega) hp
        · exact Or.inr hv
      · have h2 : C (eA R i) ≠ C (eB R i) := fun e => h2 (by rw [e])
        refine r_gP hK 242 12 17 253 rfl (by decide) ?_
        refine rn_eq (q_sZ hC (eA R i) rfl (by omega) (by decide)) ?_
        refine r_gP hK 242 12 17 253 rfl (by decide) ?_
        refine rn_eq (q_sZ hC (eB R i) rfl (by omega) (by decide)) ?_
        have hX1 := cx_up (cx_up hX (v := eA R i) (by omega)) (v := eB R i) (by omega)
        have ad : adj R T (eA R i) (eB R i) := ⟨i, his, h1, Or.inl ⟨rfl, rfl⟩⟩
        have hab : rch R T c (eA R i) ∧ rch R T c (eB R i) := by
          rcases Nat.lt_or_ge (C (eA R i)) 1 with q | q
          · have : C (eB R i) = 1 := by omega
            have r := hr (eB R i) (by omega) this
            exact ⟨rch_step r (adj_sy ad), r⟩
          · have : C (eA R i) = 1 := by omega
            have r := hr (eA R i) (by omega) this
            exact ⟨r, rch_step r ad⟩
        have s1 := smN_up (f := C) (c := eA R i) (v := 1) 60 (by omega)
        have s2 := smN_up (f := va_up C (eA R i) 1) (c := eB R i) (v := 1) 60 (by omega)
        rw [va_up_n (fun e => hne e.symm)] at s2
        refine ih _ _ 1 (by omega) (by omega) hX1 (hM.tr (CF.w.tr CF.w)) (fun x hx h => ?_) ?_ (Or.inr ⟨rfl, ?_⟩)
        · by_cases q1 : x = eB R i
          · rw [q1]
            exact hab.2
          · rw [va_up_n q1] at h
            by_cases q2 : x = eA R i
            · rw [q2]
              exact hab.1
            · rw [va_up_n q2] at h
              exact hr x hx h
        · by_cases q1 : c = eB R i
          · rw [q1, va_up_s]
          · rw [va_up_n q1]
            by_cases q2 : c = eA R i
            · rw [q2, va_up_s]
            · rw [va_up_n q2]
              exact hc
        · rcases hv with hv | hv <;> omega
theorem foll_while (hN1 : 151 ≤ N) (hK : KS sh z) (hN : WN R) (hW : WS R) (hA : AG (d0.1 (z + 243)) R) (hT : TM z R d0 T) (hk : ∀ (d' : Dt) (C' : Nat → Nat), CX2 d' z C' → CF z d0 d' → (∀ x, x < 60 → C' x = 1 → rch R T c x) → C' c = 1 → CLO R T C' (nn R 1) → Q d') : ∀ (B fu : Nat) (d : Dt) (C : Nat → Nat) (v : Int32), 60 + (if v = 0 then 0 else 1) < B + smN C 60 → B ≤ fu → smN C 60 ≤ 60 → CX2 d z C → CF z d0 d → (∀ x, x < 60 → C x = 1 → rch R T c x) → C c = 1 → ((v = 0 ∧ CLO R T C (nn R 1)) ∨ v = 1) → Rn (f_X12_follows_32 N sh fu (z + 242) (z + 251) v d) Q
  | 0, fu, d, C, v, h1, h2, h3, hX, hM, hr, hc, hv => by omega
  | B + 1, fu, d, C, v, h1, h2, h3, hX, hM, hr, hc, hv => by
    obtain ⟨fu, rfl⟩ : ∃ q, fu = q + 1 := ⟨fu - 1, by omega⟩
    show Rn (g_X12_follows_32 N sh (f_X12_follows_32 N sh fu) (z + 242) (z + 251) v d) Q
    have n1 := hN.2.1.2
    unfold g_X12_follows_32
    rcases hv with hv | hv
    · refine rn_t hv.1 ?_
      exact rn_some (hk d C hX hM hr hc hv.2)
    · subst hv
      refine rn_f (by decide) ?_
      rw [if_neg (by decide)] at h1
      refine foll_pass (C0 := C) hK hN hW hA hT (fun v d' C' X' M' r' c' q => ?_) (nn R 1) 0 N d C 0 (by omega) (by omega) hX hM hr hc (Or.inl ⟨rfl, rfl, fun s hs => absurd hs (Nat.not_lt_zero s)⟩)
      have h3' : smN C' 60 ≤ 60 := by
        have q := smN_le (f := C') (g := fun _ => 1) 60 (fun k hk => (X' k hk).2)
        rw [smN_const] at q
        omega
      rcases q with q | q
      · refine foll_while hN1 hK hN hW hA hT hk B fu d' C' v ?_ (by omega) h3' X' M' r' c' (Or.inl ⟨q.1, q.2.2⟩)
        rw [if_pos q.1, q.2.1]
        omega
      · refine foll_while hN1 hK hN hW hA hT hk B fu d' C' v ?_ (by omega) h3' X' M' r' c' (Or.inr q.1)
        rw [if_neg (by rw [q.1]; decide)]
        omega
/-- what can be come to, in the row of the reference -/
def CM (d : Dt) (z : Nat) (P : Nat → Prop) : Prop := ∀ v, v < 60 → (d.1 (z + 253) v = 1 ∧ P v) ∨ (d.1 (z + 253) v = 0 ∧ ¬ P v)
theorem foll_init (hNf : 2 ^ 40 ≤ N) (hK : KS sh z) (hN : WN R) (hW : WS R) (hA : AG (d0.1 (z + 243)) R) (hT : TM z R d0 T) (hc : c < 60) : ∀ (m i fu : Nat) (d : Dt), i + m = 60 → m < fu → CF z d0 d → (∀ v, v < i → d.1 (z + 253) v = nI (if v = c then 1 else 0)) → Rn (f_X12_follows_2 N sh fu (z + 242) (nI c) (z + 251) (nI i) d) (fun d' => CF z d0 d' ∧ CM d' z (rch R T c))
  | 0, i, fu, d, hi, hf, hM, hv => by
    obtain ⟨fu, rfl⟩ : ∃ q, fu = q + 1 := ⟨fu - 1, by omega⟩
    show Rn (g_X12_follows_2 N sh (f_X12_follows_2 N sh fu) (z + 242) (nI c) (z + 251) (nI i) d) _
    have n0 := hN.1.2
    unfold g_X12_follows_2
    refine rn_t ((nI_leI (a := 60) (by omega) (by omega)).mpr (by omega)) ?_
    unfold f_X12_follows_30
    have fin : ∀ (d' : Dt) (C' : Nat → Nat), CX2 d' z C' → CF z d0 d' → (∀ x, x < 60 → C' x = 1 → rch R T c x) → C' c = 1 → CLO R T C' (nn R 1) → (CF z d0 d' ∧ CM d' z (rch R T c)) := fun d' C' X' M' r' c' clo => ⟨M', fun v hv => by
      have hcl : ∀ a b, adj R T a b → C' a = 1 → C' b = 1 := fun a b ha h => by
        obtain ⟨s, q1, q2, q3⟩ := ha
        have := clo s q1 q2
        rcases q3 with ⟨rfl, rfl⟩ | ⟨rfl, rfl⟩ <;> omega
      obtain ⟨x1, x2⟩ := X' v hv
      rcases Nat.lt_or_ge (C' v) 1 with q | q
      · right
        have e : C' v = 0 := by omega
        refine ⟨by rw [x1, e]; rfl, fun r => ?_⟩
        have := rch_cl (P := fun x => C' x = 1) hcl r c'
        omega
      · left
        have e : C' v = 1 := by omega
        exact ⟨by rw [x1, e]; rfl, r' v hv e⟩⟩
    refine foll_while (c := c) (T := T) (by omega) hK hN hW hA hT fin 70 N d (fun v => if v = c then 1 else 0) 1 ?_ (by omega) ?_ (fun v hv2 => ⟨hv v (by omega), ?_⟩) hM (fun x hx h => ?_) (if_pos rfl) (Or.inr rfl)
    · rw [if_neg (by decide)]
      omega
    · have q := smN_le (f := fun v => if v = c then 1 else 0) (g := fun _ => 1) 60 (fun k _ => by
        show (if k = c then 1 else 0) ≤ 1
        split <;> omega)
      rw [smN_const] at q
      omega
    · show (if v = c then 1 else 0) ≤ 1
      split <;> omega
    · have h : (if x = c then 1 else 0) = 1 := h
      by_cases e : x = c
      · rw [e]
        exact rch_rf
      · rw [if_neg e] at h
        cases h
  | m + 1, i, fu, d, hi, hf, hM, hv => by
    obtain ⟨fu, rfl⟩ : ∃ q, fu = q + 1 := ⟨fu - 1, by omega⟩
    have ih := foll_init hNf hK hN hW hA hT hc m (i + 1) fu
    show Rn (g_X12_follows_2 N sh (f_X12_follows_2 N sh fu) (z + 242) (nI c) (z + 251) (nI i) d) _
    unfold g_X12_follows_2
    refine rn_f (nI_ge (b := 60) (by omega) (by decide)) ?_
    refine r_gP hK 242 12 17 253 rfl (by decide) ?_
    have go : ∀ w : Int32, vp_nar .boolean w = nI (if i = c then 1 else 0) → Rn (f_X12_follows_23 N sh (f_X12_follows_2 N sh fu) (z + 242) (nI c) (z + 251) (nI i) (z + 253) (nI i) w d) (fun d' => CF z d0 d' ∧ CM d' z (rch R T c)) := fun w hw => by
      unfold f_X12_follows_23
      refine rn_eq (q_sZ (ks_a hK 253 4 60 rfl) i rfl (by omega) (by decide)) ?_
      rw [nI_1]
      refine ih _ (by omega) (by omega) (hM.tr CF.w) (fun v hv2 => ?_)
      rw [wI_s]
      by_cases e : v = i
      · rw [e, va_up_s, hw]
      · rw [va_up_n e]
        exact hv v (by omega)
    refine rn_ite (fun h1 => ?_) (fun h1 => ?_)
    · refine go 0 ?_
      rw [if_neg (fun e => h1 (by rw [e]))]
      exact nar_b.2
    · refine go 1 ?_
      rw [if_pos (nI_inj (Decidable.of_not_not h1) (by omega) (by omega))]
      exact nar_b.1
theorem m_follows (hNf : 2 ^ 40 ≤ N) (hK : KS sh z) (hN : WN R) (hW : WS R) (hA : AG (d.1 (z + 243)) R) (hT : TM z R d T) (hc : c < 60) : Rn (f_X12_follows N sh (z + 242) (nI c) (z + 251) d) (fun d' => CF z d d' ∧ CM d' z (rch R T c)) := by
  unfold f_X12_follows
  refine rn_t (ks_o hK 242 12 rfl) ?_
  exact foll_init (d0 := d) hNf hK hN hW hA hT hc 60 0 N d (by omega) (by omega) CF.rf (fun v h => absurd h (Nat.not_lt_zero v))
end RC
