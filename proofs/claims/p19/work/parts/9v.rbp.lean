/-! roundByPairs of the reference -/
noncomputable def apP (R : Nat → Int32) : (Nat → Nat) → List (Nat × Nat) → (Nat → Nat)
  | T, [] => T
  | T, q :: l => apP R (addL 1 T (wayL R q.2 60 q.1)) l
/-- what is touched while a ROUND is made -/
def RBF (z : Nat) (d d' : Dt) : Prop := d'.2 = d.2 ∧ (∀ a, a ≠ z + 242 → a < z + 251 ∨ z + 260 < a → d'.1 a = d.1 a) ∧ ∀ k, k ≠ 16 → k ≠ 19 → k ≠ 20 → k ≠ 21 → k ≠ 24 → d'.1 (z + 242) k = d.1 (z + 242) k
section RBP
variable {sh : Sh} {d d0 d' : Dt} {z : Nat} {R K : Nat → Int32} {u : Bool} {N n m k i c p q x : Nat} {T T' : Nat → Nat} {l : List (Nat × Nat)} {Q : Int32 × Dt → Prop}
theorem RBF.rf : RBF z d d := ⟨rfl, fun _ _ _ => rfl, fun _ _ _ _ _ _ => rfl⟩
theorem RBF.tr {d1 d2 : Dt} (h1 : RBF z d d1) (h2 : RBF z d1 d2) : RBF z d d2 := ⟨h2.1.trans h1.1, fun a q1 q2 => (h2.2.1 a q1 q2).trans (h1.2.1 a q1 q2), fun k a b c e f => (h2.2.2 k a b c e f).trans (h1.2.2 k a b c e f)⟩
theorem TF.tr {d1 d2 : Dt} (h1 : TF z d d1) (h2 : TF z d1 d2) : TF z d d2 := ⟨h2.1.trans h1.1, fun a q => (h2.2 a q).trans (h1.2 a q)⟩
theorem TF.rb (h : TF z d d') : RBF z d d' := ⟨h.1, fun a _ q => h.2 a (by omega), fun k _ _ _ _ _ => by rw [h.2 (z + 242) (by omega)]⟩
theorem JF.rb (h : JF z d d') : RBF z d d' := ⟨h.1, fun a q1 q => h.2.1 a q1 (by omega) (by omega), fun k _ q _ _ _ => h.2.2 k q⟩
theorem OF.rb (h : OF z d d') : RBF z d d' := ⟨h.1, fun a q1 q => h.2.1 a q1 (by omega), fun k q _ _ _ _ => h.2.2 k q⟩
theorem QF.rb (h : QF z d d') : RBF z d d' := ⟨h.1, fun a q1 q => h.2.1 a q1 (by omega) (by omega) (by omega), fun k _ _ q1 q2 _ => h.2.2 k q1 q2⟩
theorem DVF.rb (h : DVF z d d') : RBF z d d' := ⟨h.1, fun a q1 q => h.2.1 a q1 (by omega) (by omega) (by omega) (by omega) (by omega) (by omega), fun k _ _ _ _ q => h.2.2 k q⟩
theorem RBF.mfr (h : RBF z d d') : MFR z d d' := ⟨by rw [h.1], by rw [h.1], fun a q => ⟨h.2.1 a (by omega) (by omega), by rw [h.1]⟩⟩
theorem ri_rb (h : RI d z R K u) (f : RBF z d d') : RI d' z R K u := by
  obtain ⟨r1, r2, r3, r4, r5⟩ := h
  refine ⟨?_, ?_, ?_, ?_, ?_⟩
  · rw [f.2.1 (z + 243) (by omega) (by omega)]
    exact r1
  · rw [f.2.1 (z + 244) (by omega) (by omega)]
    exact r2
  · rw [f.2.2 2 (by decide) (by decide) (by decide) (by decide) (by decide)]
    exact r3
  · rw [f.2.2 8 (by decide) (by decide) (by decide) (by decide) (by decide)]
    exact r4
  · rw [f.2.2 10 (by decide) (by decide) (by decide) (by decide) (by decide), f.2.1 (z + 247) (by omega) (by omega)]
    exact r5
theorem RBF.rc (h : RBF z d d') (hR : RCx d z R) : RCx d' z R := by
  unfold RCx
  rw [h.2.1 (z + 243) (by omega) (by omega), h.2.1 (z + 247) (by omega) (by omega)]
  exact hR
theorem opt_add (hO : OPT R T) {l : List Nat} (h : ∀ s, s ∈ l → R (16 + 9 * s + 4) = 0) : OPT R (addL n T l) := fun s hs hp => by
  by_cases e : s ∈ l
  · exact h s e
  · rw [addL_out l T s e] at hp
    exact hO s hs hp
theorem prX_inO (hG : GF R) (hm : (oddl R).length ≤ 14) : ∀ (k S : Nat), S < 2 ^ (oddl R).length → pcN S (oddl R).length % 2 = 0 → ∀ q, q ∈ prX R k S → inO R q.1 ∧ inO R q.2
  | 0, S, _, _, q, hq => by cases hq
  | k + 1, S, hS, he, q, hq => by
    by_cases h0 : S = 0
    · rw [show prX R (k + 1) S = [] from if_pos h0] at hq
      cases hq
    · rw [show prX R (k + 1) S = (oC R (lowB S), oC R (fpJ R S)) :: prX R k (rm2 S (lowB S) (fpJ R S)) from if_neg h0] at hq
      have j0 := (fpJ_ok (fp_ex hG hm hS he h0)).1
      have l0 := lowB_ok h0
      have lt : ∀ j, S.testBit j = true → j < (oddl R).length := fun j hj => by
        rcases Nat.lt_or_ge j (oddl R).length with h | h
        · exact h
        · rw [Nat.testBit_lt_two_pow (Nat.lt_of_lt_of_le hS (Nat.pow_le_pow_right (by decide) h))] at hj
          exact absurd hj (by decide)
      have a1 := lt _ l0.1
      have a2 := lt _ j0.1
      rcases List.mem_cons.mp hq with e | e
      · rw [e]
        exact ⟨⟨_, a1, rfl⟩, ⟨_, a2, rfl⟩⟩
      · have pr := pc_rm l0.1 j0.1 (by have := j0.2.1; omega) (oddl R).length
        rw [if_pos a1, if_pos a2] at pr
        have sb : rm2 S (lowB S) (fpJ R S) < 2 ^ (oddl R).length := by
          unfold rm2
          exact Nat.xor_lt_two_pow (Nat.xor_lt_two_pow hS (Nat.pow_lt_pow_right (by decide) a1)) (Nat.pow_lt_pow_right (by decide) a2)
        exact prX_inO hG hm k _ sb (by omega) q e
theorem pairsL_inO (hW : WS R) (hN : WN R) (hG : GF R) : ∀ q, q ∈ pairsL R → inO R q.1 ∧ inO R q.2 := fun q hq => by
  have he := oddl_even hW hN
  have hp := Nat.two_pow_pos (oddl R).length
  unfold pairsL at hq
  by_cases hm : (oddl R).length ≤ 14
  · rw [if_pos hm] at hq
    exact prX_inO hG hm 7 _ (by omega) (by rw [pc_full _ (Nat.le_refl _)]; exact he) q hq
  · rw [if_neg hm] at hq
    obtain ⟨k, hk, rfl⟩ := List.mem_map.mp hq
    have hk := List.mem_range.mp hk
    have po : PO R (P0 R) ((oddl R).length / 2) := fun k hk => ⟨⟨2 * k, by omega, rfl⟩, ⟨2 * k + 1, by omega, rfl⟩⟩
    exact po_exN 1000 _ po k hk
theorem prX_len : ∀ k S, (prX R k S).length ≤ k
  | 0, _ => Nat.le_refl 0
  | k + 1, S => by
    by_cases h0 : S = 0
    · rw [show prX R (k + 1) S = [] from if_pos h0]
      exact Nat.zero_le _
    · rw [show prX R (k + 1) S = (oC R (lowB S), oC R (fpJ R S)) :: prX R k (rm2 S (lowB S) (fpJ R S)) from if_neg h0]
      exact Nat.succ_le_succ (prX_len k _)
theorem pairsL_len (hW : WS R) (hN : WN R) : (pairsL R).length ≤ 30 := by
  have hl := oddl_len hW hN
  unfold pairsL
  by_cases hm : (oddl R).length ≤ 14
  · rw [if_pos hm]
    have := prX_len (R := R) 7 (2 ^ (oddl R).length - 1)
    omega
  · rw [if_neg hm, List.length_map, List.length_range]
    omega
/-- the TIMES behind the pairs -/
theorem apP_props (hW : WS R) (hN : WN R) : ∀ (l : List (Nat × Nat)) (T : Nat → Nat), (∀ q, q ∈ l → ∃ n, dst R q.1 q.2 n) → OPT R T → OPT R (apP R T l) ∧ (∀ s, T s ≤ apP R T l s) ∧ ∀ s, apP R T l s ≤ T s + 60 * l.length
  | [], T, _, hO => ⟨hO, fun _ => Nat.le_refl _, fun _ => Nat.le_refl _⟩
  | q :: l, T, hd, hO => by
    obtain ⟨n, hd1⟩ := hd q (List.mem_cons_self ..)
    have r := rk_60 hW hN hd1
    obtain ⟨a1, a2, a3⟩ := apP_props hW hN l (addL 1 T (wayL R q.2 60 q.1)) (fun q' h' => hd q' (List.mem_cons_of_mem _ h')) (opt_add hO (fun s hs => (wayL_open 60 q.1 r s hs).2))
    refine ⟨a1, fun s => Nat.le_trans (addL_ge _ T s) (a2 s), fun s => Nat.le_trans (a3 s) ?_⟩
    have b1 := addL_le (n := 1) (wayL R q.2 60 q.1) T s
    have b2 := wayL_len (R := R) (b := q.2) 60 q.1
    show _ ≤ T s + 60 * (l.length + 1)
    omega
theorem ap_loop (hNf : 2 ^ 40 ≤ N) (hK : KS sh z) (hN : WN R) (hW : WS R) (hR : RCx d0 z R) (hP : PRo d0 z R) (hl : (pairsL R).length ≤ 30) (hd : ∀ q, q ∈ pairsL R → q.1 < nn R 0 ∧ q.2 < nn R 0 ∧ ∃ n, dst R q.1 q.2 n) (hk : ∀ d', TF z d0 d' → TV2 z R d' (apP R T (pairsL R)) → Rn (f_X12_roundByPairs_71 N sh (z + 242) d') Q) : ∀ (m k fu : Nat) (d : Dt) (T1 : Nat → Nat), k + m = (pairsL R).length → m < fu → TF z d0 d → TV2 z R d T1 → apP R T1 ((pairsL R).drop k) = apP R T (pairsL R) → Rn (f_X12_roundByPairs_40 N sh fu (z + 242) (nI k) d) Q
  | m, k, fu, d, T1, hc, hf, hT, hV, ha => by
    obtain ⟨fu, rfl⟩ : ∃ q, fu = q + 1 := ⟨fu - 1, by omega⟩
    show Rn (g_X12_roundByPairs_40 N sh (f_X12_roundByPairs_40 N sh fu) (z + 242) (nI k) d) _
    have eg : d.1 (z + 242) = d0.1 (z + 242) := hT.2 _ (by omega)
    have e5 : d.1 (z + 255) = d0.1 (z + 255) := hT.2 _ (by omega)
    have e6 : d.1 (z + 256) = d0.1 (z + 256) := hT.2 _ (by omega)
    unfold g_X12_roundByPairs_40
    refine r_gI hK (i := 242) (c := 12) rfl ?_
    rw [eg, hP.1]
    cases m with
    | zero =>
      refine rn_t (nI_le (by omega) (by omega)) ?_
      have e : (pairsL R).drop k = [] := List.drop_eq_nil_of_le (by omega)
      rw [e] at ha
      have ha : T1 = apP R T (pairsL R) := ha
      exact hk d hT (ha ▸ hV)
    | succ m =>
      have hk1 : k < (pairsL R).length := by omega
      refine rn_f (nI_ge hk1 (by omega)) ?_
      have eq : (pairsL R).drop k = (pairsL R)[k] :: (pairsL R).drop (k + 1) := List.drop_eq_getElem_cons hk1
      have ed : (pairsL R).getD k (0, 0) = (pairsL R)[k] := by
        rw [List.getD_eq_getElem?_getD, List.getElem?_eq_getElem hk1]
        rfl
      obtain ⟨p1, p2⟩ := hP.2 k hk1
      rw [ed] at p1 p2
      obtain ⟨h1, h2, n, h3⟩ := hd _ (List.getElem_mem hk1)
      rw [eq] at ha
      refine r_gP hK 242 12 22 255 rfl (by decide) ?_
      refine rn_eq (q_aT (ks_a hK 255 0 30 rfl) k rfl (by omega) (by decide)) ?_
      refine r_gP hK 242 12 23 256 rfl (by decide) ?_
      refine rn_eq (q_aT (ks_a hK 256 0 30 rfl) k rfl (by omega) (by decide)) ?_
      rw [e5, e6, p1, p2, nI_1]
      refine rn_bind (m_adds (n9 := 1) hNf hK hN hW (hT.rc hR) h1 h2 h3 hV) (fun d2 hd2 => ?_)
      refine ap_loop hNf hK hN hW hR hP hl hd hk m (k + 1) fu d2 _ (by omega) (by omega) (TF.tr hT hd2.1) hd2.2 ha
theorem sum_loop (hK : KS sh z) (hN : WN R) (hA : AG (d.1 (z + 243)) R) (hV : TV2 z R d T) (hTb : ∀ s, s < nn R 1 → T s ≤ 10000) (hk : Rn (f_X12_roundByPairs_100 N sh (z + 242) (nI (smN T (nn R 1))) d) Q) : ∀ (m i fu : Nat), i + m = nn R 1 → m < fu → Rn (f_X12_roundByPairs_75 N sh fu (z + 242) (nI (smN T i)) (nI i) d) Q
  | 0, i, fu, hi, hf => by
    obtain ⟨fu, rfl⟩ : ∃ q, fu = q + 1 := ⟨fu - 1, by omega⟩
    have n1 := hN.2.1
    show Rn (g_X12_roundByPairs_75 N sh (f_X12_roundByPairs_75 N sh fu) (z + 242) (nI (smN T i)) (nI i) d) _
    unfold g_X12_roundByPairs_75
    refine rdg hK hA 1 rfl (by decide) ?_
    rw [n1.1]
    refine rn_t (nI_le (by omega) (by omega)) ?_
    have e : i = nn R 1 := by omega
    rw [e]
    exact hk
  | m + 1, i, fu, hi, hf => by
    obtain ⟨fu, rfl⟩ : ∃ q, fu = q + 1 := ⟨fu - 1, by omega⟩
    have n1 := hN.2.1
    show Rn (g_X12_roundByPairs_75 N sh (f_X12_roundByPairs_75 N sh fu) (z + 242) (nI (smN T i)) (nI i) d) _
    unfold g_X12_roundByPairs_75
    refine rdg hK hA 1 rfl (by decide) ?_
    rw [n1.1]
    refine rn_f (nI_ge (by omega) (by omega)) ?_
    refine r_gP hK 242 12 14 251 rfl (by decide) ?_
    refine rn_eq (q_aT (ks_a hK 251 0 150 rfl) i rfl (by omega) (by decide)) ?_
    rw [hV i (by omega), nI_add, nI_1]
    exact sum_loop hK hN hA hV hTb hk m (i + 1) fu (by omega) (by omega)
/-- the outcome of roundByPairs: NO, FULL, or the DRIVES -/
noncomputable def tsP (R : Nat → Int32) (T' : Nat → Nat) : Nat → Nat := apP R T' (pairsL R)
noncomputable def pbR (R : Nat → Int32) : Int32 × List (Nat × Nat × Nat) :=
  match joinF R 60 (T0 R) with
  | none => (-8, [])
  | some T' => if smN (tsP R T') (nn R 1) ≤ 2000 then (0, drA R 2000 (tsP R T') 0 (T0 R)) else (-3, [])
theorem joinF_all (hW : WS R) (hN : WN R) (hB : BW R) (hj : joinF R 60 (T0 R) = some T') : (∀ s, s < nn R 1 → T' s ≤ 8000) ∧ (∀ s, T' s % 2 = T0 R s % 2) ∧ OPT R T' ∧ conn R T' 0 ∧ GF R ∧ (∀ q, q ∈ pairsL R → inO R q.1 ∧ inO R q.2 ∧ q.1 < nn R 0 ∧ q.2 < nn R 0 ∧ ∃ n, dst R q.1 q.2 n) ∧ OPT R (tsP R T') ∧ (∀ s, s < nn R 1 → tsP R T' s ≤ 9800) ∧ ∀ s, T' s ≤ tsP R T' s := by
  obtain ⟨j1, j2, -, j4, j5⟩ := joinF_props hW hN 60 (T0 R) T' hj (fun s hs => by have := T0_le hW hs; omega) T0_opt
  have hG := gf_of hW hN hB j4 j2 j5
  have hI := pairsL_inO hW hN hG
  have hd : ∀ q, q ∈ pairsL R → inO R q.1 ∧ inO R q.2 ∧ q.1 < nn R 0 ∧ q.2 < nn R 0 ∧ ∃ n, dst R q.1 q.2 n := fun q hq => by
    obtain ⟨i1, i2⟩ := hI q hq
    exact ⟨i1, i2, inO_lt hW hN i1, inO_lt hW hN i2, inO_dst hW hN hB j4 j2 j5 i1 i2⟩
  obtain ⟨a1, a2, a3⟩ := apP_props hW hN (pairsL R) T' (fun q hq => (hd q hq).2.2.2.2) j4
  have hl := pairsL_len hW hN
  exact ⟨j1, j2, j4, j5, hG, hd, a1, fun s hs => by have b1 := a3 s; have b2 := j1 s hs; show apP R T' (pairsL R) s ≤ 9800; omega, a2⟩
theorem m_roundByPairs (hNf : 2 ^ 40 ≤ N) (hK : KS sh z) (hN : WN R) (hW : WS R) (hB : BW R) (hR : RCx d z R) (h20 : d.1 (z + 242) 20 = 0) (h21 : d.1 (z + 242) 21 = 0) (hD : DRl z d []) (hE : ∀ s, s < nn R 1 → d.1 (z + 260) s = 0) : Rn (f_X12_roundByPairs N sh (z + 242) d) (fun r => RBF z d r.2 ∧ r.1 = (pbR R).1 ∧ (r.1 = 0 → DRl z r.2 (pbR R).2 ∧ ∃ g, g ≤ 30 ∧ r.2.1 (z + 242) 21 = nI g ∧ ∀ k, k < g → ∃ a b, a < 60 ∧ b < 60 ∧ r.2.1 (z + 255) k = nI a ∧ r.2.1 (z + 256) k = nI b)) := by
  have n0 := hN.1.2
  unfold f_X12_roundByPairs
  refine rn_t (ks_o hK 242 12 rfl) ?_
  refine rn_bind (m_beginTimes (by omega) hK hN hW hR.1) (fun d1 h1 => ?_)
  obtain ⟨f1, v1⟩ := h1
  refine rn_bind (m_joinsAll hNf hK hN hW (f1.rb.rc hR) (fun s hs => T0_le hW hs) v1) (fun r h2 => ?_)
  obtain ⟨f2, h2⟩ := h2
  rcases h2 with ⟨j1, j2⟩ | ⟨T', j1, j2, v2⟩
  · refine rn_f (fun q => q j2) ?_
    have e : pbR R = (-8, []) := by unfold pbR; rw [j1]
    rw [e]
    exact rn_some ⟨f1.rb.tr f2.rb, rfl, fun q => absurd (show (-8 : Int32) = 0 from q) (by decide)⟩
  · refine rn_t (by rw [j2]; decide) ?_
    obtain ⟨b1, b2, b3, b4, hG, hd, b5, b6, -⟩ := joinF_all hW hN hB j1
    have fr2 := f1.rb.tr f2.rb
    refine rn_bind (m_findOdd (by omega) hK hN hW (fr2.rc hR).1 v2 (fun s hs => by have := b1 s hs; omega)) (fun d3 h3 => ?_)
    obtain ⟨f3, o1, o2⟩ := h3
    have fr3 := fr2.tr f3.rb
    have hO : ODr d3 z R := by
      have e : oddP R T' (nn R 0) = oddl R := by rw [oddP_par b2, ← oddl_P hW hN]
      rw [e] at o1 o2
      exact ⟨o1, o2⟩
    have hl := oddl_len hW hN
    have e20 : d3.1 (z + 242) 20 = 0 := by rw [f3.2.2 20 (by decide), f2.2.2 20 (by decide), f1.2 (z + 242) (by omega)]; exact h20
    have e21 : d3.1 (z + 242) 21 = 0 := by rw [f3.2.2 21 (by decide), f2.2.2 21 (by decide), f1.2 (z + 242) (by omega)]; exact h21
    have hpl := pairsL_len hW hN
    have rest : ∀ d4, QF z d3 d4 → PRo d4 z R → Rn (f_X12_roundByPairs_38 N sh (z + 242) d4) (fun r => RBF z d r.2 ∧ r.1 = (pbR R).1 ∧ (r.1 = 0 → DRl z r.2 (pbR R).2 ∧ ∃ g, g ≤ 30 ∧ r.2.1 (z + 242) 21 = nI g ∧ ∀ k, k < g → ∃ a b, a < 60 ∧ b < 60 ∧ r.2.1 (z + 255) k = nI a ∧ r.2.1 (z + 256) k = nI b)) := fun d4 f4 hP => by
      have fr4 := fr3.tr f4.rb
      have v4 : TV2 z R d4 T' := fun s hs => by
        rw [f4.2.1 (z + 251) (by omega) (by omega) (by omega) (by omega), f3.2.1 (z + 251) (by omega) (by omega)]
        exact v2 s hs
      unfold f_X12_roundByPairs_38
      refine ap_loop (T := T') hNf hK hN hW (fr4.rc hR) hP hpl (fun q hq => (hd q hq).2.2) (fun d5 f5 v5 => ?_) (pairsL R).length 0 N d4 T' (by omega) (by omega) TF.rf v4 rfl
      have fr5 := fr4.tr f5.rb
      unfold f_X12_roundByPairs_71
      refine sum_loop (T := tsP R T') hK hN (fr5.rc hR).1 v5 (fun s hs => by have := b6 s hs; omega) ?_ (nn R 1) 0 N (by omega) (by have := hN.2.1.2; omega)
      unfold f_X12_roundByPairs_100
      have sb : smN (tsP R T') (nn R 1) ≤ smN (fun _ => 9800) (nn R 1) := smN_le _ (fun k hk => b6 k hk)
      rw [smN_const] at sb
      have n1 := hN.2.1.2
      have sb2 : nn R 1 * 9800 ≤ 150 * 9800 := Nat.mul_le_mul_right _ n1
      by_cases ht : smN (tsP R T') (nn R 1) ≤ 2000
      · refine rn_t (nI_le (b := 2000) ht (by decide)) ?_
        have e : pbR R = (0, drA R 2000 (tsP R T') 0 (T0 R)) := by
          unfold pbR
          rw [j1]
          exact if_pos ht
        have e24 : d5.1 (z + 242) 24 = d.1 (z + 242) 24 := by
          rw [f5.2 (z + 242) (by omega), f4.2.2 24 (by decide) (by decide), f3.2.2 24 (by decide), f2.2.2 24 (by decide), f1.2 (z + 242) (by omega)]
        have e60 : d5.1 (z + 260) = d.1 (z + 260) := by
          rw [f5.2 (z + 260) (by omega), f4.2.1 (z + 260) (by omega) (by omega) (by omega) (by omega), f3.2.1 (z + 260) (by omega) (by omega), f2.2.1 (z + 260) (by omega) (by omega) (by omega), f1.2 (z + 260) (by omega)]
        refine rn_bind (m_drivesAll (k := 2000) (E := fun _ => 0) (D := T0 R) hNf hK hN hW hB b5 (fun s hs => by have := b6 s hs; omega) ht (Nat.le_refl _) (fr5.rc hR).1 v5 ⟨by rw [e24]; exact hD.1, fun i hi => absurd hi (Nat.not_lt_zero i)⟩ (fun s hs => ⟨by rw [e60]; exact hE s hs, by omega, fun ho => if_pos ho⟩)) (fun d6 h6 => ?_)
        refine rn_some ⟨fr5.tr h6.1.rb, by rw [e], fun _ => ⟨by rw [e]; exact h6.2, (pairsL R).length, hpl, ?_, fun k hk => ?_⟩⟩
        · show d6.1 (z + 242) 21 = _
          rw [h6.1.2.2 21 (by decide), f5.2 (z + 242) (by omega)]
          exact hP.1
        · have hm : (pairsL R).getD k (0, 0) ∈ pairsL R := by
            rw [List.getD_eq_getElem?_getD, List.getElem?_eq_getElem hk]
            exact List.getElem_mem hk
          obtain ⟨-, -, h7, h8, -⟩ := hd _ hm
          obtain ⟨p1, p2⟩ := hP.2 k hk
          refine ⟨((pairsL R).getD k (0, 0)).1, ((pairsL R).getD k (0, 0)).2, by omega, by omega, ?_, ?_⟩
          · show d6.1 (z + 255) k = _
            rw [h6.1.2.1 (z + 255) (by omega) (by omega) (by omega) (by omega) (by omega) (by omega) (by omega), f5.2 (z + 255) (by omega)]
            exact p1
          · show d6.1 (z + 256) k = _
            rw [h6.1.2.1 (z + 256) (by omega) (by omega) (by omega) (by omega) (by omega) (by omega) (by omega), f5.2 (z + 256) (by omega)]
            exact p2
      · refine rn_f (fun q => ht ((nI_leI (b := 2000) (by omega) (by decide)).mp q)) ?_
        have e : pbR R = (-3, []) := by
          unfold pbR
          rw [j1]
          exact if_neg ht
        rw [e]
        exact rn_some ⟨fr5, rfl, fun q => absurd (show (-3 : Int32) = 0 from q) (by decide)⟩
    refine r_gI hK (i := 242) (c := 12) rfl ?_
    rw [hO.1]
    by_cases hm : (oddl R).length ≤ 14
    · refine rn_f (fun q => absurd ((nI_ltI (a := 14) (by decide) (by omega)).mp q) (by omega)) ?_
      refine rn_bind (m_pairsLeast (by omega) hK hN hW (fr3.rc hR) hO hm hG e21) (fun d4 h4 => rest d4 h4.1 h4.2)
    · refine rn_t (nI_lt (a := 14) (by omega) (by omega)) ?_
      refine rn_bind (m_pairsInOrder (by omega) hK hN hW (fr3.rc hR) hO hm hG e20 e21) (fun d4 h4 => rest d4 h4.1 h4.2)
end RBP
