/-! digest() of both, sign() of both: they read, and answer -/
section DIG
variable {s : AS} {sh : Sh} {d d0 d' : Dt} {z : Nat} {ow : Nat → Nat} {R K : Nat → Int32} {u : Bool} {y : YL} {N cc i p t c m h g : Nat} {q : BL} {γ : Type} {Q : γ → Prop}
theorem m_dat {w : Int32} (hK : KS sh z) (h : RI d z R K u) (hR : WF R) (hi : i < nn R 4) : Rn (f_X12_driveAt N sh (z + 242) (nI i) w d) (fun _ => True) := by
  have n4 := hR.1.2.2.2.2
  have n1 := hR.1.2.1.2
  obtain ⟨s, c, hs, e0, e1, -⟩ := hR.2.2.2.2.2 i hi
  unfold f_X12_driveAt f_X12_driveAt_68
  refine rn_t (ks_o hK 242 12 rfl) ?_
  refine rn_ite (fun _ => ?_) (fun _ => rdd0 hK h.1 (by omega) (rn_some trivial))
  refine rn_ite (fun _ => ?_) (fun _ => rdd hK h.1 (by omega) 1 (by decide) rfl (rn_some trivial))
  refine rn_ite (fun _ => rdd hK h.1 (by omega) 2 (by decide) rfl (rn_some trivial)) (fun _ => ?_)
  refine rn_bind (P := fun _ => True) ?_ (fun v _ => rn_some trivial)
  unfold f_X12_to f_X12_to_64
  refine rn_t (ks_o hK 242 12 rfl) ?_
  refine rdd0 hK h.1 (by omega) ?_
  rw [e0]
  refine rn_eq (m_st hK) ?_
  refine rdd hK h.1 (by omega) 1 (by decide) rfl ?_
  refine rst hK h.1 7 (by omega) (by decide) rfl ?_
  refine rn_ite (fun _ => rst hK h.1 7 (by omega) (by decide) rfl (rn_some trivial)) (fun _ => rst hK h.1 8 (by omega) (by decide) rfl (rn_some trivial))
theorem m_pat {w : Int32} (hK : KS sh z) (hp12 : p < 12) : Rn (f_X12_partAt N sh (z + 242) (nI p) w d) (fun _ => True) := by
  unfold f_X12_partAt f_X12_partAt_135
  refine rn_t (ks_o hK 242 12 rfl) ?_
  refine rn_eq (m_pl hK) ?_
  refine rn_ite (fun _ => rdp hK hp12 6 (by decide) rfl (fun _ => rn_some trivial)) (fun _ => ?_)
  refine rn_ite (fun _ => rdp hK hp12 7 (by decide) rfl (fun _ => rn_some trivial)) (fun _ => ?_)
  refine rn_ite (fun _ => rdp hK hp12 8 (by decide) rfl (fun _ => rn_some trivial)) (fun _ => ?_)
  refine rn_ite (fun _ => rdp hK hp12 9 (by decide) rfl (fun _ => rn_some trivial)) (fun _ => ?_)
  refine rn_ite (fun _ => rdp hK hp12 10 (by decide) rfl (fun _ => rn_some trivial)) (fun _ => ?_)
  refine rn_ite (fun _ => rdp hK hp12 1 (by decide) rfl (fun _ => rn_some trivial)) (fun _ => ?_)
  refine rn_ite (fun _ => rdp hK hp12 2 (by decide) rfl (fun v => ?_)) (fun _ => ?_)
  · refine rn_ite (fun _ => rdp hK hp12 0 (by decide) rfl (fun _ => rn_some trivial)) (fun _ => rn_some trivial)
  refine rn_ite (fun _ => rdp hK hp12 11 (by decide) rfl (fun _ => rn_some trivial)) (fun _ => ?_)
  exact rdp hK hp12 12 (by decide) rfl (fun _ => rn_some trivial)
/-! the reference's loops, the last first -/
theorem dg205 {k : Nat → Int32 → Int32 → Dt → Option (Int32 × Dt)} {Q : Int32 × Dt → Prop} (hK : KS sh z) (h : RI d z R K u) (hR : WF R) (hi : i < nn R 4) (kk : ∀ v, Rn (k (z + 242) v (nI (i + 1)) d) Q) : ∀ (m c fu : Nat) (v : Int32), c + m = 4 → m < fu → Rn (f_X12_digest_205 N sh k fu (z + 242) v (nI i) (nI c) d) Q
  | 0, c, fu, v, hc, hf => by
    obtain ⟨fu, rfl⟩ : ∃ q, fu = q + 1 := ⟨fu - 1, by omega⟩
    show Rn (g_X12_digest_205 N sh k (f_X12_digest_205 N sh k fu) (z + 242) v (nI i) (nI c) d) _
    unfold g_X12_digest_205 f_X12_digest_228
    rw [nI_1]
    refine rn_t (nI_le (a := 4) (by omega) (by omega)) ?_
    exact kk v
  | m + 1, c, fu, v, hc, hf => by
    obtain ⟨fu, rfl⟩ : ∃ q, fu = q + 1 := ⟨fu - 1, by omega⟩
    show Rn (g_X12_digest_205 N sh k (f_X12_digest_205 N sh k fu) (z + 242) v (nI i) (nI c) d) _
    unfold g_X12_digest_205
    refine rn_f (nI_ge (b := 4) (by omega) (by decide)) ?_
    refine rn_bind (m_dat hK h hR hi) (fun v26 _ => ?_)
    rw [nI_1]
    exact dg205 hK h hR hi kk m (c + 1) fu _ (by omega) (by omega)
theorem dg193 (hN2 : 2100 ≤ N) (hK : KS sh z) (h : RI d z R K u) (hR : WF R) : ∀ (m i fu : Nat) (v : Int32), i + m = nn R 4 → m < fu → Rn (f_X12_digest_193 N sh fu (z + 242) v (nI i) d) (RR z R K u d)
  | 0, i, fu, v, hc, hf => by
    obtain ⟨fu, rfl⟩ : ∃ q, fu = q + 1 := ⟨fu - 1, by omega⟩
    have n4 := hR.1.2.2.2.2
    show Rn (g_X12_digest_193 N sh (f_X12_digest_193 N sh fu) (z + 242) v (nI i) d) _
    unfold g_X12_digest_193 f_X12_digest_234
    refine rdg hK h.1 4 rfl (by decide) ?_
    rw [n4.1]
    refine rn_t (nI_le (by omega) (by omega)) ?_
    exact rr_says hK h MFR.rf
  | m + 1, i, fu, v, hc, hf => by
    obtain ⟨fu, rfl⟩ : ∃ q, fu = q + 1 := ⟨fu - 1, by omega⟩
    have n4 := hR.1.2.2.2.2
    show Rn (g_X12_digest_193 N sh (f_X12_digest_193 N sh fu) (z + 242) v (nI i) d) _
    unfold g_X12_digest_193
    refine rdg hK h.1 4 rfl (by decide) ?_
    rw [n4.1]
    refine rn_f (nI_ge (by omega) (by omega)) ?_
    exact dg205 hK h hR (by omega) (fun v => dg193 hN2 hK h hR m (i + 1) fu v (by omega) (by omega)) 4 0 N v rfl (by omega)
theorem dg161 {k : Nat → Int32 → Int32 → Dt → Option (Int32 × Dt)} {Q : Int32 × Dt → Prop} (hK : KS sh z) (hp : p < 12) (kk : ∀ v, Rn (k (z + 242) v (nI (p + 1)) d) Q) : ∀ (m c fu : Nat) (v : Int32), c + m = 9 → m < fu → Rn (f_X12_digest_161 N sh k fu (z + 242) v (nI p) (nI c) d) Q
  | 0, c, fu, v, hc, hf => by
    obtain ⟨fu, rfl⟩ : ∃ q, fu = q + 1 := ⟨fu - 1, by omega⟩
    show Rn (g_X12_digest_161 N sh k (f_X12_digest_161 N sh k fu) (z + 242) v (nI p) (nI c) d) _
    unfold g_X12_digest_161 f_X12_digest_185
    rw [nI_1]
    refine rn_t (nI_le (a := 9) (by omega) (by omega)) ?_
    exact kk v
  | m + 1, c, fu, v, hc, hf => by
    obtain ⟨fu, rfl⟩ : ∃ q, fu = q + 1 := ⟨fu - 1, by omega⟩
    show Rn (g_X12_digest_161 N sh k (f_X12_digest_161 N sh k fu) (z + 242) v (nI p) (nI c) d) _
    unfold g_X12_digest_161
    refine rn_f (nI_ge (b := 9) (by omega) (by decide)) ?_
    refine rn_bind (m_pat hK hp) (fun v26 _ => ?_)
    rw [nI_1]
    exact dg161 hK hp kk m (c + 1) fu _ (by omega) (by omega)
theorem dg149 (hN2 : 2100 ≤ N) (hK : KS sh z) (h : RI d z R K u) (hR : WF R) : ∀ (m i fu : Nat) (v : Int32), i + m = nn R 3 → m < fu → Rn (f_X12_digest_149 N sh fu (z + 242) v (nI i) d) (RR z R K u d)
  | 0, i, fu, v, hc, hf => by
    obtain ⟨fu, rfl⟩ : ∃ q, fu = q + 1 := ⟨fu - 1, by omega⟩
    have n3 := hR.1.2.2.2.1
    have n4 := hR.1.2.2.2.2
    show Rn (g_X12_digest_149 N sh (f_X12_digest_149 N sh fu) (z + 242) v (nI i) d) _
    unfold g_X12_digest_149 f_X12_digest_191
    refine rdg hK h.1 3 rfl (by decide) ?_
    rw [n3.1]
    refine rn_t (nI_le (by omega) (by omega)) ?_
    exact dg193 hN2 hK h hR (nn R 4) 0 N v (by omega) (by omega)
  | m + 1, i, fu, v, hc, hf => by
    obtain ⟨fu, rfl⟩ : ∃ q, fu = q + 1 := ⟨fu - 1, by omega⟩
    have n3 := hR.1.2.2.2.1
    show Rn (g_X12_digest_149 N sh (f_X12_digest_149 N sh fu) (z + 242) v (nI i) d) _
    unfold g_X12_digest_149
    refine rdg hK h.1 3 rfl (by decide) ?_
    rw [n3.1]
    refine rn_f (nI_ge (by omega) (by omega)) ?_
    exact dg161 hK (by omega) (fun v => dg149 hN2 hK h hR m (i + 1) fu v (by omega) (by omega)) 9 0 N v rfl (by omega)
theorem hrs_le (hG : WG R) (hg : g < nn R 2) : nn R (1366 + 3 * g + 2) ≤ 200 ∧ ∀ h, h ≤ 200 → (R (1366 + 3 * g + 2) ≤ nI h ↔ nn R (1366 + 3 * g + 2) ≤ h) := by
  obtain ⟨h1, h2⟩ := hG g hg
  refine ⟨h2, fun h hh => ?_⟩
  rcases h1 with e | e
  · have e0 : nn R (1366 + 3 * g + 2) = 0 := nn_m1 e
    rw [e, e0]
    refine ⟨fun _ => Nat.zero_le h, fun _ => ?_⟩
    exact Int32.le_trans (show (-1 : Int32) ≤ nI 0 by decide) (nI_le (Nat.zero_le h) (by omega))
  · rw [e]
    exact nI_leI (by omega) (by omega)
theorem dg107 {k : Nat → Int32 → Int32 → Dt → Option (Int32 × Dt)} {Q : Int32 × Dt → Prop} (hK : KS sh z) (h : RI d z R K u) (hR : WF R) (hg : g < nn R 2) (kk : ∀ v, Rn (k (z + 242) v (nI (g + 1)) d) Q) : ∀ (m c fu : Nat) (v : Int32), c + m = nn R (1366 + 3 * g + 2) → m < fu → Rn (f_X12_digest_107 N sh k fu (z + 242) v (nI g) (nI c) d) Q
  | 0, c, fu, v, hc, hf => by
    obtain ⟨fu, rfl⟩ : ∃ q, fu = q + 1 := ⟨fu - 1, by omega⟩
    have n2 := hR.1.2.2.1
    obtain ⟨b1, b2⟩ := hrs_le hR.2.1 hg
    show Rn (g_X12_digest_107 N sh k (f_X12_digest_107 N sh k fu) (z + 242) v (nI g) (nI c) d) _
    unfold g_X12_digest_107 f_X12_digest_141
    rw [nI_1]
    refine rdga hK h.1 2 (by omega) (by decide) rfl ?_
    refine rn_t ((b2 c (by omega)).mpr (by omega)) ?_
    exact kk v
  | m + 1, c, fu, v, hc, hf => by
    obtain ⟨fu, rfl⟩ : ∃ q, fu = q + 1 := ⟨fu - 1, by omega⟩
    have n2 := hR.1.2.2.1
    obtain ⟨b1, b2⟩ := hrs_le hR.2.1 hg
    show Rn (g_X12_digest_107 N sh k (f_X12_digest_107 N sh k fu) (z + 242) v (nI g) (nI c) d) _
    unfold g_X12_digest_107
    refine rdga hK h.1 2 (by omega) (by decide) rfl ?_
    refine rn_f (fun q => absurd ((b2 c (by omega)).mp q) (by omega)) ?_
    refine rn_eq (m_tells hK h.1 (by omega) (by omega)) ?_
    rw [nI_1]
    exact dg107 hK h hR hg kk m (c + 1) fu _ (by omega) (by omega)
theorem rdga0 {β : Type} {Q : β → Prop} {g : Int32 → Option β} {p : Nat} (hK : KS sh z) (hA : AG (d.1 (z + 243)) R) (hp : p < 20) (kk : Rn (g (R (1366 + 3 * p))) Q) : Rn ((gP sh (z + 242) 12 0).bind fun v1 => (f_X12_ga N sh (z + 242) (nI p) d).bind fun v2 => (aT 0 sh d v1 v2).bind g) Q := by
  refine r_gP hK 242 12 0 243 rfl (by decide) ?_
  refine rn_eq (m_ga hK) ?_
  refine rn_eq (q_aT (ks_a hK 243 0 15642 rfl) (1366 + 3 * p) ?_ (by omega) (by decide)) ?_
  · rw [show (1366 : Int32) = nI 1366 from rfl, show (3 : Int32) = nI 3 from rfl, pk_mul, nI_add]
  · rw [hA _ (by omega)]
    exact kk
theorem dg63 (hN2 : 2100 ≤ N) (hK : KS sh z) (h : RI d z R K u) (hR : WF R) : ∀ (m i fu : Nat) (v : Int32), i + m = nn R 2 → m < fu → Rn (f_X12_digest_63 N sh fu (z + 242) v (nI i) d) (RR z R K u d)
  | 0, i, fu, v, hc, hf => by
    obtain ⟨fu, rfl⟩ : ∃ q, fu = q + 1 := ⟨fu - 1, by omega⟩
    have n2 := hR.1.2.2.1
    have n3 := hR.1.2.2.2.1
    show Rn (g_X12_digest_63 N sh (f_X12_digest_63 N sh fu) (z + 242) v (nI i) d) _
    unfold g_X12_digest_63 f_X12_digest_147
    refine rdg hK h.1 2 rfl (by decide) ?_
    rw [n2.1]
    refine rn_t (nI_le (by omega) (by omega)) ?_
    exact dg149 hN2 hK h hR (nn R 3) 0 N v (by omega) (by omega)
  | m + 1, i, fu, v, hc, hf => by
    obtain ⟨fu, rfl⟩ : ∃ q, fu = q + 1 := ⟨fu - 1, by omega⟩
    have n2 := hR.1.2.2.1
    have hi : i < nn R 2 := by omega
    show Rn (g_X12_digest_63 N sh (f_X12_digest_63 N sh fu) (z + 242) v (nI i) d) _
    unfold g_X12_digest_63
    refine rdg hK h.1 2 rfl (by decide) ?_
    rw [n2.1]
    refine rn_f (nI_ge (by omega) (by omega)) ?_
    refine rdga0 hK h.1 (by omega) ?_
    refine rdga hK h.1 2 (by omega) (by decide) rfl ?_
    have b := (hrs_le hR.2.1 hi).1
    exact dg107 hK h hR hi (fun v => dg63 hN2 hK h hR m (i + 1) fu v (by omega) (by omega)) (nn R (1366 + 3 * i + 2)) 0 N _ (by omega) (by omega)
theorem dg25 {k : Nat → Int32 → Int32 → Dt → Option (Int32 × Dt)} {Q : Int32 × Dt → Prop} (hK : KS sh z) (h : RI d z R K u) (ht : t < 150) (kk : ∀ v, Rn (k (z + 242) v (nI (t + 1)) d) Q) : ∀ (m c fu : Nat) (v : Int32), c + m = 9 → m < fu → Rn (f_X12_digest_25 N sh k fu (z + 242) v (nI t) (nI c) d) Q
  | 0, c, fu, v, hc, hf => by
    obtain ⟨fu, rfl⟩ : ∃ q, fu = q + 1 := ⟨fu - 1, by omega⟩
    show Rn (g_X12_digest_25 N sh k (f_X12_digest_25 N sh k fu) (z + 242) v (nI t) (nI c) d) _
    unfold g_X12_digest_25 f_X12_digest_55
    rw [nI_1]
    refine rn_t (nI_le (a := 9) (by omega) (by omega)) ?_
    exact kk v
  | m + 1, c, fu, v, hc, hf => by
    obtain ⟨fu, rfl⟩ : ∃ q, fu = q + 1 := ⟨fu - 1, by omega⟩
    show Rn (g_X12_digest_25 N sh k (f_X12_digest_25 N sh k fu) (z + 242) v (nI t) (nI c) d) _
    unfold g_X12_digest_25
    refine rn_f (nI_ge (b := 9) (by omega) (by decide)) ?_
    refine rds hK h.1 c ht (by omega) rfl ?_
    rw [nI_1]
    exact dg25 hK h ht kk m (c + 1) fu _ (by omega) (by omega)
theorem dg13 (hN2 : 2100 ≤ N) (hK : KS sh z) (h : RI d z R K u) (hR : WF R) : ∀ (m i fu : Nat) (v : Int32), i + m = nn R 1 → m < fu → Rn (f_X12_digest_13 N sh fu (z + 242) v (nI i) d) (RR z R K u d)
  | 0, i, fu, v, hc, hf => by
    obtain ⟨fu, rfl⟩ : ∃ q, fu = q + 1 := ⟨fu - 1, by omega⟩
    have n1 := hR.1.2.1
    have n2 := hR.1.2.2.1
    show Rn (g_X12_digest_13 N sh (f_X12_digest_13 N sh fu) (z + 242) v (nI i) d) _
    unfold g_X12_digest_13 f_X12_digest_61
    refine rdg hK h.1 1 rfl (by decide) ?_
    rw [n1.1]
    refine rn_t (nI_le (by omega) (by omega)) ?_
    exact dg63 hN2 hK h hR (nn R 2) 0 N v (by omega) (by omega)
  | m + 1, i, fu, v, hc, hf => by
    obtain ⟨fu, rfl⟩ : ∃ q, fu = q + 1 := ⟨fu - 1, by omega⟩
    have n1 := hR.1.2.1
    show Rn (g_X12_digest_13 N sh (f_X12_digest_13 N sh fu) (z + 242) v (nI i) d) _
    unfold g_X12_digest_13
    refine rdg hK h.1 1 rfl (by decide) ?_
    rw [n1.1]
    refine rn_f (nI_ge (by omega) (by omega)) ?_
    exact dg25 hK h (by omega) (fun v => dg13 hN2 hK h hR m (i + 1) fu v (by omega) (by omega)) 9 0 N v rfl (by omega)
theorem m_digest (hN2 : 2100 ≤ N) (hK : KS sh z) (h : RI d z R K u) (hR : WF R) : Rn (f_X12_digest N sh (z + 242) d) (RR z R K u d) := by
  have n1 := hR.1.2.1
  unfold f_X12_digest
  refine rn_t (ks_o hK 242 12 rfl) ?_
  refine rdg hK h.1 0 rfl (by decide) ?_
  exact dg13 hN2 hK h hR (nn R 1) 0 N _ (by omega) (by omega)
/-! the class -/
theorem do15 {o nc S : Nat} {V : Nat → Nat → Int32} {L : Nat → Nat} {k : Nat → Int32 → Int32 → Option Int32} {Q : Int32 → Prop} (hK : KS sh z) (hk : tck o nc = true) (ht : TB sh d z ow o nc S V L) (hi : i < S) (kk : ∀ v, Rn (k (z + o) v (nI (i + 1))) Q) : ∀ (m c fu : Nat) (v : Int32), c + m = nc → m < fu → Rn (f_X8_digestOf_15 N sh k d fu (z + o) v (nI i) (nI c)) Q
  | 0, c, fu, v, hc, hf => by
    obtain ⟨fu, rfl⟩ : ∃ q, fu = q + 1 := ⟨fu - 1, by omega⟩
    have hn := tck_n hk
    show Rn (g_X8_digestOf_15 N sh k (f_X8_digestOf_15 N sh k d fu) (z + o) v (nI i) (nI c) d) _
    unfold g_X8_digestOf_15 f_X8_digestOf_46
    rw [nI_1]
    refine r_gP hK o 8 0 (o + 1) (tck_1 hk) (tck_3 hk) ?_
    refine rn_eq (q_len (ks_a hK (o + 1) 5 nc (tck_2 hk)) (by decide)) ?_
    refine rn_t (nI_le (by omega) (by omega)) ?_
    exact kk v
  | m + 1, c, fu, v, hc, hf => by
    obtain ⟨fu, rfl⟩ : ∃ q, fu = q + 1 := ⟨fu - 1, by omega⟩
    have hn := tck_n hk
    obtain ⟨a, ha, hw, hA, hL, hSL, hLb, hV⟩ := ht.2 c (by omega)
    show Rn (g_X8_digestOf_15 N sh k (f_X8_digestOf_15 N sh k d fu) (z + o) v (nI i) (nI c) d) _
    unfold g_X8_digestOf_15
    refine r_gP hK o 8 0 (o + 1) (tck_1 hk) (tck_3 hk) ?_
    refine rn_eq (q_len (ks_a hK (o + 1) 5 nc (tck_2 hk)) (by decide)) ?_
    refine rn_f (nI_ge (by omega) (by omega)) ?_
    refine r_gP hK o 8 0 (o + 1) (tck_1 hk) (tck_3 hk) ?_
    refine rn_eq (q_aQ (ks_a hK (o + 1) 5 nc (tck_2 hk)) c a rfl (by omega) (by omega) ha) ?_
    refine rn_eq (q_aT ⟨hA, hL⟩ i rfl (by omega) (by omega)) ?_
    rw [nI_1]
    exact do15 hK hk ht hi kk m (c + 1) fu _ (by omega) (by omega)
theorem do4 {o nc S : Nat} {V : Nat → Nat → Int32} {L : Nat → Nat} (hN2 : 2100 ≤ N) (hK : KS sh z) (hk : tck o nc = true) (hS : S ≤ 2000) (ht : TB sh d z ow o nc S V L) : ∀ (m i fu : Nat) (v : Int32), i + m = S → m < fu → Rn (f_X8_digestOf_4 N sh d fu (z + o) v (nI i)) (fun _ => True)
  | 0, i, fu, v, hc, hf => by
    obtain ⟨fu, rfl⟩ : ∃ q, fu = q + 1 := ⟨fu - 1, by omega⟩
    show Rn (g_X8_digestOf_4 N sh (f_X8_digestOf_4 N sh d fu) (z + o) v (nI i) d) _
    unfold g_X8_digestOf_4 f_X8_digestOf_52
    refine r_gI hK (tck_1 hk) ?_
    rw [ht.1]
    exact rn_t (nI_le (by omega) (by omega)) (rn_some trivial)
  | m + 1, i, fu, v, hc, hf => by
    obtain ⟨fu, rfl⟩ : ∃ q, fu = q + 1 := ⟨fu - 1, by omega⟩
    have hn := tck_n hk
    show Rn (g_X8_digestOf_4 N sh (f_X8_digestOf_4 N sh d fu) (z + o) v (nI i) d) _
    unfold g_X8_digestOf_4
    refine r_gI hK (tck_1 hk) ?_
    rw [ht.1]
    refine rn_f (nI_ge (by omega) (by omega)) ?_
    exact do15 hK hk ht (by omega) (fun v => do4 hN2 hK hk hS ht m (i + 1) fu v (by omega) (by omega)) nc 0 N v (by omega) (by omega)
theorem k_digestOf {v : Int32} {o nc S : Nat} {V : Nat → Nat → Int32} {L : Nat → Nat} (hN2 : 2100 ≤ N) (hK : KS sh z) (hk : tck o nc = true) (hS : S ≤ 2000) (ht : TB sh d z ow o nc S V L) : Rn (f_X8_digestOf N sh (z + o) v d) (fun _ => True) := by
  unfold f_X8_digestOf
  refine rn_t (ks_o hK o 8 (tck_1 hk)) ?_
  exact do4 hN2 hK hk hS ht S 0 N v (by omega) (by omega)
theorem dk79 {k : Nat → Int32 → Int32 → Dt → Option (Int32 × Dt)} {Q : Int32 × Dt → Prop} (hK : KS sh z) (hR : WF R) (hB : BK sh d z ow 3 R q) (hg : g < nn R 2) (kk : ∀ v, Rn (k z v (nI (g + 1)) d) Q) : ∀ (m c fu : Nat) (v : Int32), c + m = nn R (1366 + 3 * g + 2) → m < fu → Rn (f_X11_digest_79 N sh k fu z v (nI g) (R (1366 + 3 * g + 2)) (nI c) d) Q
  | 0, c, fu, v, hc, hf => by
    obtain ⟨fu, rfl⟩ : ∃ q, fu = q + 1 := ⟨fu - 1, by omega⟩
    obtain ⟨b1, b2⟩ := hrs_le hR.2.1 hg
    show Rn (g_X11_digest_79 N sh k (f_X11_digest_79 N sh k fu) z v (nI g) (R (1366 + 3 * g + 2)) (nI c) d) _
    unfold g_X11_digest_79 f_X11_digest_107
    rw [nI_1]
    refine rn_t ((b2 c (by omega)).mpr (by omega)) ?_
    exact kk v
  | m + 1, c, fu, v, hc, hf => by
    obtain ⟨fu, rfl⟩ : ∃ q, fu = q + 1 := ⟨fu - 1, by omega⟩
    obtain ⟨b1, b2⟩ := hrs_le hR.2.1 hg
    show Rn (g_X11_digest_79 N sh k (f_X11_digest_79 N sh k fu) z v (nI g) (R (1366 + 3 * g + 2)) (nI c) d) _
    unfold g_X11_digest_79
    refine rn_f (fun q => absurd ((b2 c (by omega)).mp q) (by omega)) ?_
    rw [← z0 (z := z)]
    refine r_gP hK 0 11 1 3 rfl (by decide) ?_
    rw [z0 (z := z)]
    refine rn_eq (k_tenths hK hR.1 hR.2.1 hR.2.2.2.1 hB hg (by omega)) ?_
    rw [nI_1]
    exact dk79 hK hR hB hg kk m (c + 1) fu _ (by omega) (by omega)
theorem dk26 (hN2 : 2100 ≤ N) (h : CI s z ow R K u y cc) (hR : WF R) : ∀ (m i fu : Nat) (v : Int32), i + m = nn R 2 → m < fu → Rn (f_X11_digest_26 N s.1 fu z v (nI i) s.2) (KR z R K u cc s)
  | 0, i, fu, v, hc, hf => by
    obtain ⟨fu, rfl⟩ : ∃ q, fu = q + 1 := ⟨fu - 1, by omega⟩
    have hK := h.1
    have hB : BK s.1 s.2 z ow 3 R y.1 := h.2.2.1
    have n2 := hR.1.2.2.1
    have n3 := hR.1.2.2.2.1
    have n4 := hR.1.2.2.2.2
    show Rn (g_X11_digest_26 N s.1 (f_X11_digest_26 N s.1 fu) z v (nI i) s.2) _
    unfold g_X11_digest_26
    refine r_now hK 2 15 (by decide) ?_
    refine r_gI hK (i := 15) (c := 8) rfl ?_
    rw [hB.2.2.1.1]
    refine rn_t (nI_le (by omega) (by omega)) ?_
    unfold f_X11_digest_113
    refine r_now hK 3 20 (by decide) ?_
    refine rn_bind (k_digestOf hN2 hK (by decide) (by omega) hB.2.2.2.1) (fun v17 _ => ?_)
    refine r_now hK 4 31 (by decide) ?_
    refine rn_bind (k_digestOf hN2 hK (by decide) (by omega) hB.2.2.2.2.1) (fun v20 _ => ?_)
    exact kr_says h
  | m + 1, i, fu, v, hc, hf => by
    obtain ⟨fu, rfl⟩ : ∃ q, fu = q + 1 := ⟨fu - 1, by omega⟩
    have hK := h.1
    have hB : BK s.1 s.2 z ow 3 R y.1 := h.2.2.1
    have n2 := hR.1.2.2.1
    have hi : i < nn R 2 := by omega
    show Rn (g_X11_digest_26 N s.1 (f_X11_digest_26 N s.1 fu) z v (nI i) s.2) _
    unfold g_X11_digest_26
    refine r_now hK 2 15 (by decide) ?_
    refine r_gI hK (i := 15) (c := 8) rfl ?_
    rw [hB.2.2.1.1]
    refine rn_f (nI_ge (by omega) (by omega)) ?_
    refine r_now hK 2 15 (by decide) ?_
    refine rn_eq (tb_get (o := 15) (nc := 3) (c := 2) hK (by decide) hB.2.2.1 rfl hi rfl (by decide)) ?_
    refine r_now hK 2 15 (by decide) ?_
    refine rn_eq (tb_get (o := 15) (nc := 3) (c := 0) hK (by decide) hB.2.2.1 rfl hi rfl (by decide)) ?_
    have b := (hrs_le hR.2.1 hi).1
    exact dk79 hK hR hB hi (fun v => dk26 hN2 h hR m (i + 1) fu v (by omega) (by omega)) (nn R (1366 + 3 * i + 2)) 0 N _ (by omega) (by omega)
theorem k_digest (hN2 : 2100 ≤ N) (h : CI s z ow R K u y cc) (hR : WF R) : Rn (f_X11_digest N s.1 z s.2) (KR z R K u cc s) := by
  have hK := h.1
  have hB : BK s.1 s.2 z ow 3 R y.1 := h.2.2.1
  have n1 := hR.1.2.1
  have n2 := hR.1.2.2.1
  unfold f_X11_digest
  rw [← z0 (z := z)]
  refine rn_t (ks_o hK 0 11 rfl) ?_
  refine r_gP hK 0 11 1 3 rfl (by decide) ?_
  refine r_gI hK (i := 3) (c := 1) rfl ?_
  rw [z0 (z := z)]
  refine r_now hK 1 4 (by decide) ?_
  refine rn_bind (k_digestOf hN2 hK (by decide) (by omega) hB.2.1) (fun v5 _ => ?_)
  exact dk26 hN2 h hR (nn R 2) 0 N v5 (by omega) (by omega)
/-! sign() -/
theorem m_sign {x : Int32} (hK : KS sh z) (h : RI d z R K u) : Rn (f_X12_sign N sh (z + 242) x d) (fun _ => True) := by
  obtain ⟨g, hg, e⟩ := h.2.2.2.1
  unfold f_X12_sign f_X12_sign_24
  refine rn_t (ks_o hK 242 12 rfl) ?_
  refine r_gI hK (i := 242) (c := 12) rfl ?_
  refine rn_eq m_in ?_
  refine rn_ite (fun _ => rn_some trivial) (fun q => ?_)
  rw [e] at q
  have q2 : ¬ (x < 0 ∨ nI g ≤ x) := fun r => q (ite01.mpr (r.imp id (fun r => (lt_pred (by omega)).mpr r)))
  obtain ⟨i, hi, rfl, -⟩ := st_of (by omega) q2
  refine r_gP hK 242 12 7 246 rfl (by decide) ?_
  refine rn_eq (q_aT (ks_a hK 246 3 8000 rfl) i rfl (by omega) (by decide)) ?_
  exact rn_some trivial
theorem k_sign {x : Int32} (h : CI s z ow R K u y cc) : Rn (f_X11_sign N s.1 z x s.2) (fun _ => True) := by
  have hK := h.1
  obtain ⟨a, g, e1, -, e3, e4, -, e6, e7, e8, -⟩ := h.2.2.2.2.1.2.2.2
  unfold f_X11_sign f_X11_sign_21 f_X11_sign_22
  rw [← z0 (z := z)]
  refine rn_t (ks_o hK 0 11 rfl) ?_
  refine rn_ite (fun _ => rn_some trivial) (fun h1 => ?_)
  refine r_gI hK (i := 0) (c := 11) rfl ?_
  rw [e7]
  refine rn_ite (fun _ => rn_some trivial) (fun h2 => ?_)
  obtain ⟨i, hi, rfl, -⟩ := st_of (by omega) (fun r => r.elim h1 h2)
  refine r_gQ hK a e1 (i := 0) (c := 11) rfl ?_
  refine rn_eq (q_aT ⟨e3, e4⟩ i rfl (by omega) (by omega)) ?_
  exact rn_some trivial
end DIG
