/-! 9v.rbp.lean.txt -/
/-! roundByPairs of the reference -/
noncomputable def apP (R : Nat → Int32) : (Nat → Nat) → List (Nat × Nat) → (Nat → Nat)
  | T, [] => T
  | T, q :: l => apP R (addL 1 T (wayL R q.2 60 q.1)) l
/-- what is touched while a ROUND is made -/
def RBF (z : Nat) (d d' : Dt) : Prop := d'.2 = d.2 ∧ (∀ a, a ≠ z + 242 → a < z + 251 ∨ z + 260 < a → d'.1 a = d.1 a) ∧ ∀ k, k ≠ 16 → k ≠ 19 → k ≠ 20 → k ≠ 21 → k ≠ 24 → d'.1 (z + 242) k = d.1 (z + 242) k
section RBP
variable {sh : Sh} {d d0 d' : Dt} {z : Nat} {R K : Nat → Int32} {u : Bool} {N n m k i c p q x : Nat} {T T' : Nat → Nat} {l : List (Nat × Nat)} {Q : Int32 × Dt → Prop}
theorem RBF.rf : RBF z d d := ⟨rfl, fun _ _ _ => rfl, fun _ _ _ _ _ _ => rfl⟩
theorem RBF.tr {d1 d2 : Dt} (h1 : RBF z d d1) (h2 : RBF z d1 d2) : RBF z d d2 := ⟨h2.1.trans h1.1, fun a q1 q2 => (h2.2.1 a q1 q2).trans (h1.2.1 a q1 q2), fun k a b c e f => (h2.2.2 k a b c e f).trans (h1.2.2 k a b c e f)⟩
theorem TF.tr {d1 d2 : Dt} (h1 : TF z d d1) (h2 : TF z d1 d2) : TF z d d2 := ⟨h2.1.trans h1.1, fun a q => (h2.2 a q).trans (h1.2 a q)⟩
theorem TF.rb (h : TF z d d') : RBF z d d' := ⟨h.1, fun a _ q => h.2 a (by omega), fun k _ _ _ _ _ => by rw [h.2 (z + 242) (by omega)]⟩
theorem JF.rb (h : JF z d d') : RBF z d d' := ⟨h.1, fun a q1 q => h.2.1 a q1 (by omega) (by omega), fun k _ q _ _ _ => h.2.2 k q⟩
theorem OF.rb (h : OF z d d') : RBF z d d' := ⟨h.1, fun a q1 q => h.2.1 a q1 (by omega), fun k q _ _ _ _ => h.2.2 k q⟩
theorem QF.rb (h : QF z d d') : RBF z d d' := ⟨h.1, fun a q1 q => h.2.1 a q1 (by omega) (by omega) (by omega), fun k _ _ q1 q2 _ => h.2.2 k q1 q2⟩
theorem DVF.rb (h : DVF z d d') : RBF z d d' := ⟨h.1, fun a q1 q => h.2.1 a q1 (by omega) (by omega) (by omega) (by omega) (by omega) (by omega), fun k _ _ _ _ q => h.2.2 k q⟩
theorem RBF.mfr (h : RBF z d d') : MFR z d d' := ⟨by rw [h.1], by rw [h.1], fun a q => ⟨h.2.1 a (by omega) (by omega), by rw [h.1]⟩⟩
theorem ri_rb (h : RI d z R K u) (f : RBF z d d') : RI d' z R K u := by
  obtain ⟨r1, r2, r3, r4, r5⟩ := h
  refine ⟨?_, ?_, ?_, ?_, ?_⟩
  · rw [f.2.1 (z + 243) (by omega) (by omega)]
    exact r1
  · rw [f.2.1 (z + 244) (by omega) (by omega)]
    exact r2
  · rw [f.2.2 2 (by decide) (by decide) (by decide) (by decide) (by decide)]
    exact r3
  · rw [f.2.2 8 (by decide) (by decide) (by decide) (by decide) (by decide)]
    exact r4
  · rw [f.2.2 10 (by decide) (by decide) (by decide) (by decide) (by decide), f.2.1 (z + 247) (by omega) (by omega)]
    exact r5
theorem RBF.rc (h : RBF z d d') (hR : RCx d z R) : RCx d' z R := by
  unfold RCx
  rw [h.2.1 (z + 243) (by omega) (by omega), h.2.1 (z + 247) (by omega) (by omega)]
  exact hR
theorem opt_add (hO : OPT R T) {l : List Nat} (h : ∀ s, s ∈ l → R (16 + 9 * s + 4) = 0) : OPT R (addL n T l) := fun s hs hp => by
  by_cases e : s ∈ l
  · exact h s e
  · rw [addL_out l T s e] at hp
    exact hO s hs hp
theorem prX_inO (hG : GF R) (hm : (oddl R).length ≤ 14) : ∀ (k S : Nat), S < 2 ^ (oddl R).length → pcN S (oddl R).length % 2 = 0 → ∀ q, q ∈ prX R k S → inO R q.1 ∧ inO R q.2
  | 0, S, _, _, q, hq => by cases hq
  | k + 1, S, hS, he, q, hq => by
    by_cases h0 : S = 0
    · rw [show prX R (k + 1) S = [] from if_pos h0] at hq
      cases hq
    · rw [show prX R (k + 1) S = (oC R (lowB S), oC R (fpJ R S)) :: prX R k (rm2 S (lowB S) (fpJ R S)) from if_neg h0] at hq
      have j0 := (fpJ_ok (fp_ex hG hm hS he h0)).1
      have l0 := lowB_ok h0
      have lt : ∀ j, S.testBit j = true → j < (oddl R).length := fun j hj => by
        rcases Nat.lt_or_ge j (oddl R).length with h | h
        · exact h
        · rw [Nat.testBit_lt_two_pow (Nat.lt_of_lt_of_le hS (Nat.pow_le_pow_right (by decide) h))] at hj
          exact absurd hj (by decide)
      have a1 := lt _ l0.1
      have a2 := lt _ j0.1
      rcases List.mem_cons.mp hq with e | e
      · rw [e]
        exact ⟨⟨_, a1, rfl⟩, ⟨_, a2, rfl⟩⟩
      · have pr := pc_rm l0.1 j0.1 (by have := j0.2.1; omega) (oddl R).length
        rw [if_pos a1, if_pos a2] at pr
        have sb : rm2 S (lowB S) (fpJ R S) < 2 ^ (oddl R).length := by
          unfold rm2
          exact Nat.xor_lt_two_pow (Nat.xor_lt_two_pow hS (Nat.pow_lt_pow_right (by decide) a1)) (Nat.pow_lt_pow_right (by decide) a2)
        exact prX_inO hG hm k _ sb (by omega) q e
theorem pairsL_inO (hW : WS R) (hN : WN R) (hG : GF R) : ∀ q, q ∈ pairsL R → inO R q.1 ∧ inO R q.2 := fun q hq => by
  have he := oddl_even hW hN
  have hp := Nat.two_pow_pos (oddl R).length
  unfold pairsL at hq
  by_cases hm : (oddl R).length ≤ 14
  · rw [if_pos hm] at hq
    exact prX_inO hG hm 7 _ (by omega) (by rw [pc_full _ (Nat.le_refl _)]; exact he) q hq
  · rw [if_neg hm] at hq
    obtain ⟨k, hk, rfl⟩ := List.mem_map.mp hq
    have hk := List.mem_range.mp hk
    have po : PO R (P0 R) ((oddl R).length / 2) := fun k hk => ⟨⟨2 * k, by omega, rfl⟩, ⟨2 * k + 1, by omega, rfl⟩⟩
    exact po_exN 1000 _ po k hk
theorem prX_len : ∀ k S, (prX R k S).length ≤ k
  | 0, _ => Nat.le_refl 0
  | k + 1, S => by
    by_cases h0 : S = 0
    · rw [show prX R (k + 1) S = [] from if_pos h0]
      exact Nat.zero_le _
    · rw [show prX R (k + 1) S = (oC R (lowB S), oC R (fpJ R S)) :: prX R k (rm2 S (lowB S) (fpJ R S)) from if_neg h0]
      exact Nat.succ_le_succ (prX_len k _)
theorem pairsL_len (hW : WS R) (hN : WN R) : (pairsL R).length ≤ 30 := by
  have hl := oddl_len hW hN
  unfold pairsL
  by_cases hm : (oddl R).length ≤ 14
  · rw [if_pos hm]
    have := prX_len (R := R) 7 (2 ^ (oddl R).length - 1)
    omega
  · rw [if_neg hm, List.length_map, List.length_range]
    omega
/-- the TIMES behind the pairs -/
theorem apP_props (hW : WS R) (hN : WN R) : ∀ (l : List (Nat × Nat)) (T : Nat → Nat), (∀ q, q ∈ l → ∃ n, dst R q.1 q.2 n) → OPT R T → OPT R (apP R T l) ∧ (∀ s, T s ≤ apP R T l s) ∧ ∀ s, apP R T l s ≤ T s + 60 * l.length
  | [], T, _, hO => ⟨hO, fun _ => Nat.le_refl _, fun _ => Nat.le_refl _⟩
  | q :: l, T, hd, hO => by
    obtain ⟨n, hd1⟩ := hd q (List.mem_cons_self ..)
    have r := rk_60 hW hN hd1
    obtain ⟨a1, a2, a3⟩ := apP_props hW hN l (addL 1 T (wayL R q.2 60 q.1)) (fun q' h' => hd q' (List.mem_cons_of_mem _ h')) (opt_add hO (fun s hs => (wayL_open 60 q.1 r s hs).2))
    refine ⟨a1, fun s => Nat.le_trans (addL_ge _ T s) (a2 s), fun s => Nat.le_trans (a3 s) ?_⟩
    have b1 := addL_le (n := 1) (wayL R q.2 60 q.1) T s
    have b2 := wayL_len (R := R) (b := q.2) 60 q.1
    show _ ≤ T s + 60 * (l.length + 1)
    omega
theorem ap_loop (hNf : 2 ^ 40 ≤ N) (hK : KS sh z) (hN : WN R) (hW : WS R) (hR : RCx d0 z R) (hP : PRo d0 z R) (hl : (pairsL R).length ≤ 30) (hd : ∀ q, q ∈ pairsL R → q.1 < nn R 0 ∧ q.2 < nn R 0 ∧ ∃ n, dst R q.1 q.2 n) (hk : ∀ d', TF z d0 d' → TV2 z R d' (apP R T (pairsL R)) → Rn (f_X12_roundByPairs_71 N sh (z + 242) d') Q) : ∀ (m k fu : Nat) (d : Dt) (T1 : Nat → Nat), k + m = (pairsL R).length → m < fu → TF z d0 d → TV2 z R d T1 → apP R T1 ((pairsL R).drop k) = apP R T (pairsL R) → Rn (f_X12_roundByPairs_40 N sh fu (z + 242) (nI k) d) Q
  | m, k, fu, d, T1, hc, hf, hT, hV, ha => by
    obtain ⟨fu, rfl⟩ : ∃ q, fu = q + 1 := ⟨fu - 1, by omega⟩
    show Rn (g_X12_roundByPairs_40 N sh (f_X12_roundByPairs_40 N sh fu) (z + 242) (nI k) d) _
    have eg : d.1 (z + 242) = d0.1 (z + 242) := hT.2 _ (by omega)
    have e5 : d.1 (z + 255) = d0.1 (z + 255) := hT.2 _ (by omega)
    have e6 : d.1 (z + 256) = d0.1 (z + 256) := hT.2 _ (by omega)
    unfold g_X12_roundByPairs_40
    refine r_gI hK (i := 242) (c := 12) rfl ?_
    rw [eg, hP.1]
    cases m with
    | zero =>
      refine rn_t (nI_le (by omega) (by omega)) ?_
      have e : (pairsL R).drop k = [] := List.drop_eq_nil_of_le (by omega)
      rw [e] at ha
      have ha : T1 = apP R T (pairsL R) := ha
      exact hk d hT (ha ▸ hV)
    | succ m =>
      have hk1 : k < (pairsL R).length := by omega
      refine rn_f (nI_ge hk1 (by omega)) ?_
      have eq : (pairsL R).drop k = (pairsL R)[k] :: (pairsL R).drop (k + 1) := List.drop_eq_getElem_cons hk1
      have ed : (pairsL R).getD k (0, 0) = (pairsL R)[k] := by
        rw [List.getD_eq_getElem?_getD, List.getElem?_eq_getElem hk1]
        rfl
      obtain ⟨p1, p2⟩ := hP.2 k hk1
      rw [ed] at p1 p2
      obtain ⟨h1, h2, n, h3⟩ := hd _ (List.getElem_mem hk1)
      rw [eq] at ha
      refine r_gP hK 242 12 22 255 rfl (by decide) ?_
      refine rn_eq (q_aT (ks_a hK 255 0 30 rfl) k rfl (by omega) (by decide)) ?_
      refine r_gP hK 242 12 23 256 rfl (by decide) ?_
      refine rn_eq (q_aT (ks_a hK 256 0 30 rfl) k rfl (by omega) (by decide)) ?_
      rw [e5, e6, p1, p2, nI_1]
      refine rn_bind (m_adds (n9 := 1) hNf hK hN hW (hT.rc hR) h1 h2 h3 hV) (fun d2 hd2 => ?_)
      refine ap_loop hNf hK hN hW hR hP hl hd hk m (k + 1) fu d2 _ (by omega) (by omega) (TF.tr hT hd2.1) hd2.2 ha
theorem sum_loop (hK : KS sh z) (hN : WN R) (hA : AG (d.1 (z + 243)) R) (hV : TV2 z R d T) (hTb : ∀ s, s < nn R 1 → T s ≤ 10000) (hk : Rn (f_X12_roundByPairs_100 N sh (z + 242) (nI (smN T (nn R 1))) d) Q) : ∀ (m i fu : Nat), i + m = nn R 1 → m < fu → Rn (f_X12_roundByPairs_75 N sh fu (z + 242) (nI (smN T i)) (nI i) d) Q
  | 0, i, fu, hi, hf => by
    obtain ⟨fu, rfl⟩ : ∃ q, fu = q + 1 := ⟨fu - 1, by omega⟩
    have n1 := hN.2.1
    show Rn (g_X12_roundByPairs_75 N sh (f_X12_roundByPairs_75 N sh fu) (z + 242) (nI (smN T i)) (nI i) d) _
    unfold g_X12_roundByPairs_75
    refine rdg hK hA 1 rfl (by decide) ?_
    rw [n1.1]
    refine rn_t (nI_le (by omega) (by omega)) ?_
    have e : i = nn R 1 := by omega
    rw [e]
    exact hk
  | m + 1, i, fu, hi, hf => by
    obtain ⟨fu, rfl⟩ : ∃ q, fu = q + 1 := ⟨fu - 1, by omega⟩
    have n1 := hN.2.1
    show Rn (g_X12_roundByPairs_75 N sh (f_X12_roundByPairs_75 N sh fu) (z + 242) (nI (smN T i)) (nI i) d) _
    unfold g_X12_roundByPairs_75
    refine rdg hK hA 1 rfl (by decide) ?_
    rw [n1.1]
    refine rn_f (nI_ge (by omega) (by omega)) ?_
    refine r_gP hK 242 12 14 251 rfl (by decide) ?_
    refine rn_eq (q_aT (ks_a hK 251 0 150 rfl) i rfl (by omega) (by decide)) ?_
    rw [hV i (by omega), nI_add, nI_1]
    exact sum_loop hK hN hA hV hTb hk m (i + 1) fu (by omega) (by omega)
/-- the outcome of roundByPairs: NO, FULL, or the DRIVES -/
noncomputable def tsP (R : Nat → Int32) (T' : Nat → Nat) : Nat → Nat := apP R T' (pairsL R)
noncomputable def pbR (R : Nat → Int32) : Int32 × List (Nat × Nat × Nat) :=
  match joinF R 60 (T0 R) with
  | none => (-8, [])
  | some T' => if smN (tsP R T') (nn R 1) ≤ 2000 then (0, drA R 2000 (tsP R T') 0 (T0 R)) else (-3, [])
theorem joinF_all (hW : WS R) (hN : WN R) (hB : BW R) (hj : joinF R 60 (T0 R) = some T') : (∀ s, s < nn R 1 → T' s ≤ 8000) ∧ (∀ s, T' s % 2 = T0 R s % 2) ∧ OPT R T' ∧ conn R T' 0 ∧ GF R ∧ (∀ q, q ∈ pairsL R → inO R q.1 ∧ inO R q.2 ∧ q.1 < nn R 0 ∧ q.2 < nn R 0 ∧ ∃ n, dst R q.1 q.2 n) ∧ OPT R (tsP R T') ∧ (∀ s, s < nn R 1 → tsP R T' s ≤ 9800) ∧ ∀ s, T' s ≤ tsP R T' s := by
  obtain ⟨j1, j2, -, j4, j5⟩ := joinF_props hW hN 60 (T0 R) T' hj (fun s hs => by have := T0_le hW hs; omega) T0_opt
  have hG := gf_of hW hN hB j4 j2 j5
  have hI := pairsL_inO hW hN hG
  have hd : ∀ q, q ∈ pairsL R → inO R q.1 ∧ inO R q.2 ∧ q.1 < nn R 0 ∧ q.2 < nn R 0 ∧ ∃ n, dst R q.1 q.2 n := fun q hq => by
    obtain ⟨i1, i2⟩ := hI q hq
    exact ⟨i1, i2, inO_lt hW hN i1, inO_lt hW hN i2, inO_dst hW hN hB j4 j2 j5 i1 i2⟩
  obtain ⟨a1, a2, a3⟩ := apP_props hW hN (pairsL R) T' (fun q hq => (hd q hq).2.2.2.2) j4
  have hl := pairsL_len hW hN
  exact ⟨j1, j2, j4, j5, hG, hd, a1, fun s hs => by have b1 := a3 s; have b2 := j1 s hs; show apP R T' (pairsL R) s ≤ 9800; omega, a2⟩
theorem m_roundByPairs (hNf : 2 ^ 40 ≤ N) (hK : KS sh z) (hN : WN R) (hW : WS R) (hB : BW R) (hR : RCx d z R) (h20 : d.1 (z + 242) 20 = 0) (h21 : d.1 (z + 242) 21 = 0) (hD : DRl z d []) (hE : ∀ s, s < nn R 1 → d.1 (z + 260) s = 0) : Rn (f_X12_roundByPairs N sh (z + 242) d) (fun r => RBF z d r.2 ∧ r.1 = (pbR R).1 ∧ (r.1 = 0 → DRl z r.2 (pbR R).2 ∧ ∃ g, g ≤ 30 ∧ r.2.1 (z + 242) 21 = nI g ∧ ∀ k, k < g → ∃ a b, a < 60 ∧ b < 60 ∧ r.2.1 (z + 255) k = nI a ∧ r.2.1 (z + 256) k = nI b)) := by
  have n0 := hN.1.2
  unfold f_X12_roundByPairs
  refine rn_t (ks_o hK 242 12 rfl) ?_
  refine rn_bind (m_beginTimes (by omega) hK hN hW hR.1) (fun d1 h1 => ?_)
  obtain ⟨f1, v1⟩ := h1
  refine rn_bind (m_joinsAll hNf hK hN hW (f1.rb.rc hR) (fun s hs => T0_le hW hs) v1) (fun r h2 => ?_)
  obtain ⟨f2, h2⟩ := h2
  rcases h2 with ⟨j1, j2⟩ | ⟨T', j1, j2, v2⟩
  · refine rn_f (fun q => q j2) ?_
    have e : pbR R = (-8, []) := by unfold pbR; rw [j1]
    rw [e]
    exact rn_some ⟨f1.rb.tr f2.rb, rfl, fun q => absurd (show (-8 : Int32) = 0 from q) (by decide)⟩
  · refine rn_t (by rw [j2]; decide) ?_
    obtain ⟨b1, b2, b3, b4, hG, hd, b5, b6, -⟩ := joinF_all hW hN hB j1
    have fr2 := f1.rb.tr f2.rb
    refine rn_bind (m_findOdd (by omega) hK hN hW (fr2.rc hR).1 v2 (fun s hs => by have := b1 s hs; omega)) (fun d3 h3 => ?_)
    obtain ⟨f3, o1, o2⟩ := h3
    have fr3 := fr2.tr f3.rb
    have hO : ODr d3 z R := by
      have e : oddP R T' (nn R 0) = oddl R := by rw [oddP_par b2, ← oddl_P hW hN]
      rw [e] at o1 o2
      exact ⟨o1, o2⟩
    have hl := oddl_len hW hN
    have e20 : d3.1 (z + 242) 20 = 0 := by rw [f3.2.2 20 (by decide), f2.2.2 20 (by decide), f1.2 (z + 242) (by omega)]; exact h20
    have e21 : d3.1 (z + 242) 21 = 0 := by rw [f3.2.2 21 (by decide), f2.2.2 21 (by decide), f1.2 (z + 242) (by omega)]; exact h21
    have hpl := pairsL_len hW hN
    have rest : ∀ d4, QF z d3 d4 → PRo d4 z R → Rn (f_X12_roundByPairs_38 N sh (z + 242) d4) (fun r => RBF z d r.2 ∧ r.1 = (pbR R).1 ∧ (r.1 = 0 → DRl z r.2 (pbR R).2 ∧ ∃ g, g ≤ 30 ∧ r.2.1 (z + 242) 21 = nI g ∧ ∀ k, k < g → ∃ a b, a < 60 ∧ b < 60 ∧ r.2.1 (z + 255) k = nI a ∧ r.2.1 (z + 256) k = nI b)) := fun d4 f4 hP => by
      have fr4 := fr3.tr f4.rb
      have v4 : TV2 z R d4 T' := fun s hs => by
        rw [f4.2.1 (z + 251) (by omega) (by omega) (by omega) (by omega), f3.2.1 (z + 251) (by omega) (by omega)]
        exact v2 s hs
      unfold f_X12_roundByPairs_38
      refine ap_loop (T := T') hNf hK hN hW (fr4.rc hR) hP hpl (fun q hq => (hd q hq).2.2) (fun d5 f5 v5 => ?_) (pairsL R).length 0 N d4 T' (by omega) (by omega) TF.rf v4 rfl
      have fr5 := fr4.tr f5.rb
      unfold f_X12_roundByPairs_71
      refine sum_loop (T := tsP R T') hK hN (fr5.rc hR).1 v5 (fun s hs => by have := b6 s hs; omega) ?_ (nn R 1) 0 N (by omega) (by have := hN.2.1.2; omega)
      unfold f_X12_roundByPairs_100
      have sb : smN (tsP R T') (nn R 1) ≤ smN (fun _ => 9800) (nn R 1) := smN_le _ (fun k hk => b6 k hk)
      rw [smN_const] at sb
      have n1 := hN.2.1.2
      have sb2 : nn R 1 * 9800 ≤ 150 * 9800 := Nat.mul_le_mul_right _ n1
      by_cases ht : smN (tsP R T') (nn R 1) ≤ 2000
      · refine rn_t (nI_le (b := 2000) ht (by decide)) ?_
        have e : pbR R = (0, drA R 2000 (tsP R T') 0 (T0 R)) := by
          unfold pbR
          rw [j1]
          exact if_pos ht
        have e24 : d5.1 (z + 242) 24 = d.1 (z + 242) 24 := by
          rw [f5.2 (z + 242) (by omega), f4.2.2 24 (by decide) (by decide), f3.2.2 24 (by decide), f2.2.2 24 (by decide), f1.2 (z + 242) (by omega)]
        have e60 : d5.1 (z + 260) = d.1 (z + 260) := by
          rw [f5.2 (z + 260) (by omega), f4.2.1 (z + 260) (by omega) (by omega) (by omega) (by omega), f3.2.1 (z + 260) (by omega) (by omega), f2.2.1 (z + 260) (by omega) (by omega) (by omega), f1.2 (z + 260) (by omega)]
        refine rn_bind (m_drivesAll (k := 2000) (E := fun _ => 0) (D := T0 R) hNf hK hN hW hB b5 (fun s hs => by have := b6 s hs; omega) ht (Nat.le_refl _) (fr5.rc hR).1 v5 ⟨by rw [e24]; exact hD.1, fun i hi => absurd hi (Nat.not_lt_zero i)⟩ (fun s hs => ⟨by rw [e60]; exact hE s hs, by omega, fun ho => if_pos ho⟩)) (fun d6 h6 => ?_)
        refine rn_some ⟨fr5.tr h6.1.rb, by rw [e], fun _ => ⟨by rw [e]; exact h6.2, (pairsL R).length, hpl, ?_, fun k hk => ?_⟩⟩
        · show d6.1 (z + 242) 21 = _
          rw [h6.1.2.2 21 (by decide), f5.2 (z + 242) (by omega)]
          exact hP.1
        · have hm : (pairsL R).getD k (0, 0) ∈ pairsL R := by
            rw [List.getD_eq_getElem?_getD, List.getElem?_eq_getElem hk]
            exact List.getElem_mem hk
          obtain ⟨-, -, h7, h8, -⟩ := hd _ hm
          obtain ⟨p1, p2⟩ := hP.2 k hk
          refine ⟨((pairsL R).getD k (0, 0)).1, ((pairsL R).getD k (0, 0)).2, by omega, by omega, ?_, ?_⟩
          · show d6.1 (z + 255) k = _
            rw [h6.1.2.1 (z + 255) (by omega) (by omega) (by omega) (by omega) (by omega) (by omega) (by omega), f5.2 (z + 255) (by omega)]
            exact p1
          · show d6.1 (z + 256) k = _
            rw [h6.1.2.1 (z + 256) (by omega) (by omega) (by omega) (by omega) (by omega) (by omega) (by omega), f5.2 (z + 256) (by omega)]
            exact p2
      · refine rn_f (fun q => ht ((nI_leI (b := 2000) (by omega) (by decide)).mp q)) ?_
        have e : pbR R = (-3, []) := by
          unfold pbR
          rw [j1]
          exact if_neg ht
        rw [e]
        exact rn_some ⟨fr5, rfl, fun q => absurd (show (-3 : Int32) = 0 from q) (by decide)⟩
    refine r_gI hK (i := 242) (c := 12) rfl ?_
    rw [hO.1]
    by_cases hm : (oddl R).length ≤ 14
    · refine rn_f (fun q => absurd ((nI_ltI (a := 14) (by decide) (by omega)).mp q) (by omega)) ?_
      refine rn_bind (m_pairsLeast (by omega) hK hN hW (fr3.rc hR) hO hm hG e21) (fun d4 h4 => rest d4 h4.1 h4.2)
    · refine rn_t (nI_lt (a := 14) (by omega) (by omega)) ?_
      refine rn_bind (m_pairsInOrder (by omega) hK hN hW (fr3.rc hR) hO hm hG e20 e21) (fun d4 h4 => rest d4 h4.1 h4.2)
end RBP
/-! 9w.near.lean.txt -/
/-! a ROUND of (B): nearest first; pure, and the reference's -/
def bgn (R : Nat → Int32) (t k : Nat) : Nat := if k = 0 then eA R t else eB R t
def nrC (R : Nat → Int32) (D : Nat → Nat) (c t k n : Nat) : Prop := t < nn R 1 ∧ 0 < D t ∧ (k = 0 ∨ (k = 1 ∧ R (16 + 9 * t + 5) = 0)) ∧ dst R c (bgn R t k) n
def nrB (R : Nat → Int32) (D : Nat → Nat) (c t k : Nat) : Prop := ∃ n, nrC R D c t k n ∧ ∀ t' k' n', nrC R D c t' k' n' → n < n' ∨ (n = n' ∧ (t < t' ∨ (t = t' ∧ k ≤ k')))
noncomputable def nrX (R : Nat → Int32) (D : Nat → Nat) (c : Nat) : Nat × Nat := Classical.epsilon (fun q : Nat × Nat => nrB R D c q.1 q.2)
noncomputable def emL (R : Nat → Int32) (b : Nat) : Nat → Nat → List (Nat × Nat × Nat)
  | 0, _ => []
  | k + 1, u => if u = b then [] else ((nxt R b u).1, u, 0) :: emL R b k (nxt R b u).2
noncomputable def nrE (R : Nat → Int32) (c : Nat) (l : List (Nat × Nat × Nat)) : Int32 × List (Nat × Nat × Nat) :=
  @ite _ (∃ n, dst R c 0 n) (Classical.propDecidable _) (if (l ++ emL R 0 60 c).length ≤ 2000 then (0, l ++ emL R 0 60 c) else (-3, [])) (-8, [])
noncomputable def nrL (R : Nat → Int32) (D : Nat → Nat) (c : Nat) (l : List (Nat × Nat × Nat)) : List (Nat × Nat × Nat) := l ++ emL R (bgn R (nrX R D c).1 (nrX R D c).2) 60 c ++ [((nrX R D c).1, bgn R (nrX R D c).1 (nrX R D c).2, 1)]
noncomputable def nrF (R : Nat → Int32) : Nat → (Nat → Nat) → Nat → List (Nat × Nat × Nat) → Int32 × List (Nat × Nat × Nat)
  | 0, _, c, l => nrE R c l
  | m + 1, D, c, l => @ite _ (∃ t k, nrB R D c t k) (Classical.propDecidable _) (if (nrL R D c l).length ≤ 2000 then nrF R m (dec1 D (nrX R D c).1) (oth R (nrX R D c).1 (bgn R (nrX R D c).1 (nrX R D c).2)) (nrL R D c l) else (-3, [])) (-8, [])
/-- the best of those seen so far -/
def NRI (R : Nat → Int32) (D : Nat → Nat) (c F : Nat) (sn : Nat → Nat → Prop) (l3 : Int32) (w : Option (Nat × Nat)) : Prop := (w = none ∧ l3 = nI F ∧ ∀ t k n, sn t k → ¬ nrC R D c t k n) ∨ ∃ t k n, w = some (t, k) ∧ l3 = nI n ∧ n < 2 ^ 28 ∧ sn t k ∧ nrC R D c t k n ∧ ∀ t' k' n', sn t' k' → nrC R D c t' k' n' → n < n' ∨ (n = n' ∧ (t < t' ∨ (t = t' ∧ k ≤ k')))
section NR
variable {sh : Sh} {d d0 d' : Dt} {z : Nat} {R K : Nat → Int32} {u : Bool} {N n m k i c p q x F t b v : Nat} {D D' : Nat → Nat} {l : List (Nat × Nat × Nat)} {sn sn' : Nat → Nat → Prop} {l3 x3 : Int32} {w : Option (Nat × Nat)}
theorem nrC_fun {n' : Nat} (h : nrC R D c t k n) (h' : nrC R D c t k n') : n = n' := dst_fun h.2.2.2 h'.2.2.2
theorem nrB_fun {t' k' : Nat} (h1 : nrB R D c t k) (h2 : nrB R D c t' k') : t = t' ∧ k = k' := by
  obtain ⟨n, a1, a2⟩ := h1
  obtain ⟨n', b1, b2⟩ := h2
  have p1 := a2 _ _ _ b1
  have p2 := b2 _ _ _ a1
  omega
theorem nrX_eq (h : nrB R D c t k) : nrX R D c = (t, k) := by
  have h1 := Classical.epsilon_spec (p := fun q : Nat × Nat => nrB R D c q.1 q.2) ⟨(t, k), h⟩
  have h2 := nrB_fun h1 h
  exact Prod.ext h2.1 h2.2
theorem NRI.cg (h : NRI R D c F sn l3 w) (e : ∀ t k n, nrC R D c t k n → (sn t k ↔ sn' t k)) : NRI R D c F sn' l3 w := by
  rcases h with ⟨h1, h2, h3⟩ | ⟨t, k, n, h1, h2, h3, h4, h5, h6⟩
  · exact Or.inl ⟨h1, h2, fun t k n hs hc => h3 t k n ((e t k n hc).mpr hs) hc⟩
  · exact Or.inr ⟨t, k, n, h1, h2, h3, (e t k n h5).mp h4, h5, fun t' k' n' hs hc => h6 t' k' n' ((e t' k' n' hc).mpr hs) hc⟩
/-- one more is looked at -/
theorem NRI.step (hF : 2 ^ 28 ≤ F) (hF2 : F < 2 ^ 31) (h : NRI R D c F sn l3 w) (hx : dOK R F c (bgn R t k) x3) (ht : t < nn R 1) (hD : 0 < D t) (hk : k = 0 ∨ (k = 1 ∧ R (16 + 9 * t + 5) = 0)) (hb : ∀ t' k', sn t' k' → t' < t ∨ (t' = t ∧ k' < k)) : (l3 ≤ x3 → NRI R D c F (fun a e => sn a e ∨ (a = t ∧ e = k)) l3 w) ∧ (¬ l3 ≤ x3 → NRI R D c F (fun a e => sn a e ∨ (a = t ∧ e = k)) x3 (some (t, k))) := by
  rcases hx with ⟨n0, d1, d2, d3⟩ | ⟨d1, d3⟩
  · have hc : nrC R D c t k n0 := ⟨ht, hD, hk, d1⟩
    refine ⟨fun hle => ?_, fun hle => ?_⟩
    · rcases h with ⟨h1, h2, h3⟩ | ⟨t1, k1, n1, h1, h2, h3, h4, h5, h6⟩
      · rw [h2, d3] at hle
        have := (nI_leI (by omega) (by omega)).mp hle
        omega
      · rw [h2, d3] at hle
        have hle := (nI_leI (by omega) (by omega)).mp hle
        refine Or.inr ⟨t1, k1, n1, h1, h2, h3, Or.inl h4, h5, fun t' k' n' hs hc' => ?_⟩
        rcases hs with hs | ⟨rfl, rfl⟩
        · exact h6 t' k' n' hs hc'
        · have e := nrC_fun hc hc'
          have := hb t1 k1 h4
          omega
    · refine Or.inr ⟨t, k, n0, rfl, d3, d2, Or.inr ⟨rfl, rfl⟩, hc, fun t' k' n' hs hc' => ?_⟩
      rcases hs with hs | ⟨rfl, rfl⟩
      · rcases h with ⟨h1, h2, h3⟩ | ⟨t1, k1, n1, h1, h2, h3, h4, h5, h6⟩
        · exact absurd hc' (h3 t' k' n' hs)
        · rw [h2, d3] at hle
          have hlt : n0 < n1 := Nat.lt_of_not_le (fun q => hle (nI_le q (by omega)))
          have := h6 t' k' n' hs hc'
          omega
      · have e := nrC_fun hc hc'
        omega
  · have no : ∀ n, ¬ nrC R D c t k n := fun n hc => by
      obtain ⟨p, hp, -⟩ := hc.2.2.2.1
      exact d1 p hp
    refine ⟨fun _ => h.cg (fun t' k' n hc => ⟨Or.inl, fun hs => ?_⟩), fun hle => absurd ?_ hle⟩
    · rcases hs with hs | ⟨rfl, rfl⟩
      · exact hs
      · exact absurd hc (no n)
    · rw [d3]
      rcases h with ⟨h1, h2, h3⟩ | ⟨t1, k1, n1, h1, h2, h3, h4, h5, h6⟩
      · rw [h2]
        exact Int32.le_refl _
      · rw [h2]
        exact nI_le (by omega) hF2
theorem NRI.fin (h : NRI R D c F sn l3 w) (hs : ∀ t k n, nrC R D c t k n → sn t k) : (w = none ∧ ¬ ∃ t k, nrB R D c t k) ∨ (w = some (nrX R D c) ∧ (∃ t k, nrB R D c t k) ∧ nrB R D c (nrX R D c).1 (nrX R D c).2) := by
  rcases h with ⟨h1, h2, h3⟩ | ⟨t, k, n, h1, h2, h3, h4, h5, h6⟩
  · refine Or.inl ⟨h1, fun ⟨t, k, n, hc, _⟩ => h3 t k n (hs _ _ _ hc) hc⟩
  · have hb : nrB R D c t k := ⟨n, h5, fun t' k' n' hc => h6 t' k' n' (hs _ _ _ hc) hc⟩
    have e := nrX_eq hb
    refine Or.inr ⟨by rw [e]; exact h1, ⟨t, k, hb⟩, ?_⟩
    rw [e]
    exact hb
theorem emL_len : ∀ (k u : Nat), (emL R b k u).length ≤ k
  | 0, _ => Nat.le_refl 0
  | k + 1, u => by
    by_cases h : u = b
    · rw [show emL R b (k + 1) u = [] from if_pos h]
      exact Nat.zero_le _
    · rw [show emL R b (k + 1) u = _ from if_neg h]
      exact Nat.succ_le_succ (emL_len k _)
/-! the reference -/
theorem DF.tr {d1 d2 : Dt} (h1 : DF z d d1) (h2 : DF z d1 d2) : DF z d d2 := ⟨h2.1.trans h1.1, fun a q1 q2 q3 q4 => (h2.2.1 a q1 q2 q3 q4).trans (h1.2.1 a q1 q2 q3 q4), fun k q => (h2.2.2 k q).trans (h1.2.2 k q)⟩
theorem DF.rf : DF z d d := ⟨rfl, fun _ _ _ _ _ => rfl, fun _ _ => rfl⟩
theorem DF.rc (h : DF z d d') (hR : RCx d z R) : RCx d' z R := by
  unfold RCx
  rw [h.2.1 (z + 243) (by omega) (by omega) (by omega) (by omega), h.2.1 (z + 247) (by omega) (by omega) (by omega) (by omega)]
  exact hR
theorem dE_loop (hN1 : 151 ≤ N) (hK : KS sh z) (hN : WN R) (hW : WS R) (hb : b < nn R 0) : ∀ (k a fu : Nat) (d : Dt) (l : List (Nat × Nat × Nat)), rk R b k a → a < nn R 0 → k < fu → RCx d z R → DRl z d l → l.length + k < 2 ^ 30 → Rn (f_X12_drivesEmpty_2 N sh fu (z + 242) (nI b) (nI a) d) (fun r => r.1 = nI b ∧ DF z d r.2 ∧ DRl z r.2 (l ++ emL R b k a))
  | k, a, fu, d, l, hr, ha, hf, hR, hD, hl => by
    obtain ⟨fu, rfl⟩ : ∃ q, fu = q + 1 := ⟨fu - 1, by omega⟩
    have n0 := hN.1.2
    have n1 := hN.2.1.2
    show Rn (g_X12_drivesEmpty_2 N sh (f_X12_drivesEmpty_2 N sh fu) (z + 242) (nI b) (nI a) d) _
    unfold g_X12_drivesEmpty_2 f_X12_drivesEmpty_34
    by_cases e : a = b
    · refine rn_t (by rw [e]) ?_
      have em : emL R b k a = [] := by
        cases k with
        | zero => rfl
        | succ k => exact if_pos e
      rw [em, List.append_nil, e]
      exact rn_some ⟨rfl, DF.rf, hD⟩
    · refine rn_f (fun q => e (nI_inj q (by omega) (by omega))) ?_
      cases k with
      | zero => exact absurd hr e
      | succ k =>
        rcases hr with hr | ⟨⟨n, hd⟩, hx, hr⟩
        · exact absurd hr e
        have st := hx.1
        have hs := st.2.1.1
        have ld := nxt_leads hW hN ha hx
        refine rn_eq (m_onTo hN1 hK hN hW hR.1 hR.2 ha hb hd e) ?_
        refine rn_bind (m_drive hK (by omega) hD) (fun d2 h2 => ?_)
        refine rn_eq (m_leads hK (h2.1.rc hR).1 (by omega)) ?_
        rw [ld]
        refine rn_mono (dE_loop hN1 hK hN hW hb k _ fu d2 _ hr st.1 (by omega) (h2.1.rc hR) h2.2 (by simp; omega)) (fun r h3 => ?_)
        refine ⟨h3.1, h2.1.tr h3.2.1, ?_⟩
        have em : emL R b (k + 1) a = ((nxt R b a).1, a, 0) :: emL R b k (nxt R b a).2 := if_neg e
        have h4 := h3.2.2
        rw [List.append_assoc] at h4
        rw [em]
        exact h4
theorem m_drivesEmpty {a : Nat} (hN1 : 151 ≤ N) (hK : KS sh z) (hN : WN R) (hW : WS R) (hb : b < nn R 0) (ha : a < nn R 0) (hd : dst R a b n) (hR : RCx d z R) (hD : DRl z d l) (hl : l.length ≤ 100000) : Rn (f_X12_drivesEmpty N sh (z + 242) (nI a) (nI b) d) (fun r => r.1 = nI b ∧ DF z d r.2 ∧ DRl z r.2 (l ++ emL R b 60 a)) := by
  unfold f_X12_drivesEmpty
  refine rn_t (ks_o hK 242 12 rfl) ?_
  exact dE_loop hN1 hK hN hW hb 60 a N d l (rk_60 hW hN hd) ha (by omega) hR hD (by omega)
theorem m_must (hK : KS sh z) (hW : WS R) (hN : WN R) (hA : AG (d.1 (z + 243)) R) (ht : t < nn R 1) : f_X12_must N sh (z + 242) (nI t) d = some (if 0 < T0 R t then 1 else 0) := by
  have n1 := hN.2.1.2
  obtain ⟨-, -, -, -, e3, b3⟩ := hW t ht
  refine rn_val ?_
  unfold f_X12_must f_X12_must_27 f_X12_must_28
  refine rn_t (ks_o hK 242 12 rfl) ?_
  refine rn_eq (m_isOpen hK hA (by omega)) ?_
  unfold T0
  by_cases h : R (16 + 9 * t + 4) = 0
  · rw [if_pos h, if_pos h]
    refine rn_f (by decide) ?_
    refine rds hK hA 3 (by omega) (by decide) rfl ?_
    rw [e3]
    by_cases h2 : 0 < nn R (16 + 9 * t + 3)
    · rw [if_pos h2]
      exact rn_f (nI_ge (b := nn R (16 + 9 * t + 3)) (a := 0) h2 (by omega)) ⟨1, rfl, rfl⟩
    · rw [if_neg h2]
      exact rn_t (nI_le (b := 0) (by omega) (by omega)) ⟨0, rfl, rfl⟩
  · rw [if_neg h, if_neg h]
    exact rn_t rfl ⟨0, rfl, rfl⟩
end NR
/-! 9x.rbn.lean.txt -/
/-! roundByNearest of the reference -/
def W2 (R : Nat → Int32) (w : Option (Nat × Nat)) (l2 l4 : Int32) : Prop := (w = none ∧ l2 = -1) ∨ ∃ q, w = some q ∧ l2 = nI q.1 ∧ l4 = nI (bgn R q.1 q.2)
def LK (D : Nat → Nat) (i : Nat) (l5 : Int32) : Prop := (l5 = 0 ∧ ∀ t, t < i → D t = 0) ∨ (l5 = 1 ∧ ∃ t, t < i ∧ 0 < D t)
/-- what is done of what must be done -/
def DN (d : Dt) (z : Nat) (R : Nat → Int32) (D : Nat → Nat) : Prop := ∀ s, s < nn R 1 → ∃ e, d.1 (z + 260) s = nI e ∧ e + D s = T0 R s
section RN
variable {sh : Sh} {d d0 d' : Dt} {z : Nat} {R K : Nat → Int32} {u : Bool} {N n m k i c p q x F t b v : Nat} {D D' : Nat → Nat} {l : List (Nat × Nat × Nat)} {l3 : Int32} {w : Option (Nat × Nat)} {Q : Int32 × Dt → Prop}
theorem bgn_lt (hW : WS R) (hN : WN R) (ht : t < nn R 1) : bgn R t k < nn R 0 := by
  obtain ⟨-, q1, -, q2, -⟩ := ws_e hW hN ht
  unfold bgn
  split <;> omega
theorem ni_loop {k4 : Nat → Int32 → Int32 → Dt → Option (Int32 × Dt)} (hK : KS sh z) (hN : WN R) (hW : WS R) (hR : RCx d z R) (hc : c < nn R 0) (hD : DN d z R D) (hk : ∀ l2 l3 l4 l5 w, NRI R D c (2 ^ 28) (fun t _ => t < nn R 1) l3 w → W2 R w l2 l4 → LK D (nn R 1) l5 → Rn (f_X12_roundByNearest_195 N sh k4 (z + 242) (nI c) l2 l4 l5 d) Q) : ∀ (m i fu : Nat) (l2 l3 l4 l5 : Int32) (w : Option (Nat × Nat)), i + m = nn R 1 → m < fu → NRI R D c (2 ^ 28) (fun t _ => t < i) l3 w → W2 R w l2 l4 → LK D i l5 → Rn (f_X12_roundByNearest_23 N sh k4 fu (z + 242) (nI c) l2 l3 l4 l5 (nI i) d) Q
  | 0, i, fu, l2, l3, l4, l5, w, hi, hf, hn, hw, hl => by
    obtain ⟨fu, rfl⟩ : ∃ q, fu = q + 1 := ⟨fu - 1, by omega⟩
    have n1 := hN.2.1
    show Rn (g_X12_roundByNearest_23 N sh k4 (f_X12_roundByNearest_23 N sh k4 fu) (z + 242) (nI c) l2 l3 l4 l5 (nI i) d) _
    unfold g_X12_roundByNearest_23
    refine rdg hK hR.1 1 rfl (by decide) ?_
    rw [n1.1]
    refine rn_t (nI_le (by omega) (by omega)) ?_
    have e : i = nn R 1 := by omega
    rw [e] at hn hl
    exact hk l2 l3 l4 l5 w hn hw hl
  | m + 1, i, fu, l2, l3, l4, l5, w, hi, hf, hn, hw, hl => by
    obtain ⟨fu, rfl⟩ : ∃ q, fu = q + 1 := ⟨fu - 1, by omega⟩
    have n0 := hN.1.2
    have n1 := hN.2.1
    have hi1 : i < nn R 1 := by omega
    have ih := ni_loop hK hN hW hR hc hD hk m (i + 1) fu
    obtain ⟨e7, a2, e8, b2, hne⟩ := ws_e hW hN hi1
    obtain ⟨-, -, w5, w4, e3, b3⟩ := hW i hi1
    obtain ⟨e, he, hE⟩ := hD i hi1
    have hT := T0_le hW hi1
    show Rn (g_X12_roundByNearest_23 N sh k4 (f_X12_roundByNearest_23 N sh k4 fu) (z + 242) (nI c) l2 l3 l4 l5 (nI i) d) _
    unfold g_X12_roundByNearest_23
    refine rdg hK hR.1 1 rfl (by decide) ?_
    rw [n1.1]
    refine rn_f (nI_ge hi1 (by omega)) ?_
    refine rn_eq (m_must hK hW hN hR.1 hi1) ?_
    have skip : D i = 0 → Rn (f_X12_roundByNearest_189 N sh k4 (f_X12_roundByNearest_23 N sh k4 fu) (z + 242) (nI c) l2 l3 l4 l5 (nI i) d) Q := fun h0 => by
      unfold f_X12_roundByNearest_189
      rw [nI_1]
      refine ih l2 l3 l4 l5 w (by omega) (by omega) (hn.cg (fun t k n hc' => ⟨fun h => by omega, fun h => ?_⟩)) hw ?_
      · have h1 := hc'.2.1
        have : t ≠ i := fun e => by rw [e] at h1; omega
        omega
      · rcases hl with ⟨q1, q2⟩ | ⟨q1, t, q2, q3⟩
        · refine Or.inl ⟨q1, fun t ht => ?_⟩
          by_cases et : t = i
          · rw [et]
            exact h0
          · exact q2 t (by omega)
        · exact Or.inr ⟨q1, t, by omega, q3⟩
    by_cases hp : 0 < T0 R i
    · rw [if_pos hp]
      refine rn_f (by decide) ?_
      have eT : T0 R i = nn R (16 + 9 * i + 3) := by
        unfold T0 at hp ⊢
        by_cases h : R (16 + 9 * i + 4) = 0
        · rw [if_pos h]
        · rw [if_neg h] at hp
          omega
      refine r_gP hK 242 12 28 260 rfl (by decide) ?_
      refine rn_eq (q_aT (ks_a hK 260 0 150 rfl) i rfl (by omega) (by decide)) ?_
      refine rds hK hR.1 3 (by omega) (by decide) rfl ?_
      rw [he, e3, ← eT]
      by_cases h0 : D i = 0
      · exact rn_t (nI_le (by omega) (by omega)) (skip h0)
      · refine rn_f (nI_ge (by omega) (by omega)) ?_
        have hDi : 0 < D i := by omega
        refine rds hK hR.1 7 (by omega) (by decide) rfl ?_
        refine rds hK hR.1 8 (by omega) (by decide) rfl ?_
        rw [e7, e8]
        have hL : LK D (i + 1) 1 := Or.inr ⟨rfl, i, by omega, hDi⟩
        have two : ∀ l2 l3 l4 w, NRI R D c (2 ^ 28) (fun a e => a < i ∨ (a = i ∧ e = 0)) l3 w → W2 R w l2 l4 → Rn (f_X12_roundByNearest_137 N sh k4 (f_X12_roundByNearest_23 N sh k4 fu) (z + 242) (nI c) l2 l3 l4 1 (nI i) (nI (eB R i)) d) Q := fun l2 l3 l4 w hn hw => by
          unfold f_X12_roundByNearest_137 f_X12_roundByNearest_189
          refine rds hK hR.1 5 (by omega) (by decide) rfl ?_
          rw [nI_1]
          by_cases h5 : R (16 + 9 * i + 5) = 0
          · refine rn_f (fun q => q h5) ?_
            have st := hn.step (k := 1) (Nat.le_refl _) (by decide) (hR.2 c (eB R i) hc b2) hi1 hDi (Or.inr ⟨rfl, h5⟩) (fun t' k' h => by omega)
            have cg : ∀ {l3 w}, NRI R D c (2 ^ 28) (fun a e => (a < i ∨ (a = i ∧ e = 0)) ∨ (a = i ∧ e = 1)) l3 w → NRI R D c (2 ^ 28) (fun t _ => t < i + 1) l3 w := fun h => h.cg (fun t k n hc' => ⟨fun h => by omega, fun h => by
              rcases hc'.2.2.1 with e | e <;> omega⟩)
            refine r_gP hK 242 12 9 247 rfl (by decide) ?_
            refine rn_eq (q_aT (ks_a hK 247 0 3600 rfl) (60 * c + eB R i) (ix_far c _) (by omega) (by decide)) ?_
            refine rn_ite (fun q => ?_) (fun q => ?_)
            · exact ih l2 l3 l4 1 w (by omega) (by omega) (cg (st.1 q)) hw hL
            · refine r_gP hK 242 12 9 247 rfl (by decide) ?_
              refine rn_eq (q_aT (ks_a hK 247 0 3600 rfl) (60 * c + eB R i) (ix_far c _) (by omega) (by decide)) ?_
              exact ih (nI i) _ (nI (eB R i)) 1 (some (i, 1)) (by omega) (by omega) (cg (st.2 q)) (Or.inr ⟨(i, 1), rfl, rfl, rfl⟩) hL
          · refine rn_t h5 ?_
            refine ih l2 l3 l4 1 w (by omega) (by omega) (hn.cg (fun t k n hc' => ⟨fun h => by omega, fun h => ?_⟩)) hw hL
            have q := hc'.2.2.1
            by_cases et : t = i
            · rcases q with q | ⟨-, q⟩
              · exact Or.inr ⟨et, q⟩
              · rw [et] at q
                exact absurd q h5
            · exact Or.inl (by omega)
        have st := hn.step (k := 0) (Nat.le_refl _) (by decide) (hR.2 c (eA R i) hc a2) hi1 hDi (Or.inl rfl) (fun t' k' h => by omega)
        refine r_gP hK 242 12 9 247 rfl (by decide) ?_
        refine rn_eq (q_aT (ks_a hK 247 0 3600 rfl) (60 * c + eA R i) (ix_far c _) (by omega) (by decide)) ?_
        refine rn_ite (fun q => two l2 l3 l4 w (st.1 q) hw) (fun q => ?_)
        refine r_gP hK 242 12 9 247 rfl (by decide) ?_
        refine rn_eq (q_aT (ks_a hK 247 0 3600 rfl) (60 * c + eA R i) (ix_far c _) (by omega) (by decide)) ?_
        exact two (nI i) _ (nI (eA R i)) (some (i, 0)) (st.2 q) (Or.inr ⟨(i, 0), rfl, rfl, rfl⟩)
    · rw [if_neg hp]
      exact rn_t rfl (skip (by omega))
theorem nrB_ld (hW : WS R) (hN : WN R) (h : nrB R D c t k) : ldv R t (nI (bgn R t k)) = nI (oth R t (bgn R t k)) ∧ t < nn R 1 ∧ 0 < D t ∧ (∃ n, dst R c (bgn R t k) n) ∧ oth R t (bgn R t k) < nn R 0 := by
  have n0 := hN.1.2
  obtain ⟨n, ⟨h1, h2, h3, h4⟩, -⟩ := h
  obtain ⟨e7, a2, e8, b2, hne⟩ := ws_e hW hN h1
  refine ⟨?_, h1, h2, ⟨n, h4⟩, oth_lt hW hN h1⟩
  unfold ldv oth bgn
  rcases h3 with rfl | ⟨rfl, h5⟩
  · rw [if_pos rfl, if_pos e7, e8, if_pos rfl]
  · rw [if_neg (show ¬ (1 : Nat) = 0 by decide), if_neg (fun q => hne (nI_inj (e7.symm.trans q) (by omega) (by omega))), if_pos ⟨e8, h5⟩, e7, if_neg hne]
theorem no_loop (hN1 : 1000 ≤ N) (hK : KS sh z) (hN : WN R) (hW : WS R) : ∀ (m fu c : Nat) (D : Nat → Nat) (l : List (Nat × Nat × Nat)) (d : Dt) (l2 : Int32), smN D (nn R 1) = m → m + 1 < fu → RCx d z R → c < nn R 0 → DN d z R D → DRl z d l → l.length ≤ 2000 → l2 ≠ -1 → Rn (f_X12_roundByNearest_4 N sh fu (z + 242) (nI c) l2 d) (fun r => DVF z d r.2 ∧ r.1 = (nrF R m D c l).1 ∧ (r.1 = 0 → DRl z r.2 (nrF R m D c l).2))
  | m, fu, c, D, l, d, l2, hm, hf, hR, hc, hD, hL, hl, h2 => by
    obtain ⟨fu, rfl⟩ : ∃ q, fu = q + 1 := ⟨fu - 1, by omega⟩
    have n0 := hN.1
    have n1 := hN.2.1.2
    show Rn (g_X12_roundByNearest_4 N sh (f_X12_roundByNearest_4 N sh fu) (z + 242) (nI c) l2 d) _
    unfold g_X12_roundByNearest_4
    refine rn_f h2 ?_
    refine ni_loop (D := D) hK hN hW hR hc hD (fun l2 l3 l4 l5 w hn hw hk => ?_) (nn R 1) 0 N _ _ _ _ none (by omega) (by omega) (Or.inl ⟨rfl, rfl, fun t k n h _ => absurd h (Nat.not_lt_zero t)⟩) (Or.inl ⟨rfl, rfl⟩) (Or.inl ⟨rfl, fun t h => absurd h (Nat.not_lt_zero t)⟩)
    have fn := hn.fin (fun t k n h => h.1)
    unfold f_X12_roundByNearest_195 f_X12_roundByNearest_205
    cases m with
    | zero =>
      have z0D := smN_0 _ hm
      have hl5 : l5 = 0 := by
        rcases hk with ⟨q, -⟩ | ⟨-, t, q1, q2⟩
        · exact q
        · have := z0D t q1
          omega
      have hwn : w = none := by
        rcases fn with ⟨q, -⟩ | ⟨-, -, n, q, -⟩
        · exact q
        · have := z0D _ q.1
          have := q.2.1
          omega
      have hl2 : l2 = -1 := by
        rcases hw with ⟨-, q⟩ | ⟨q, q1, -⟩
        · exact q
        · rw [hwn] at q1
          cases q1
      refine rn_t hl5 ?_
      unfold f_X12_roundByNearest_208 f_X12_roundByNearest_258
      refine rn_t hl2 ?_
      obtain ⟨fu, rfl⟩ : ∃ q, fu = q + 1 := ⟨fu - 1, by omega⟩
      show Rn (g_X12_roundByNearest_4 N sh (f_X12_roundByNearest_4 N sh fu) (z + 242) (nI c) l2 d) _
      unfold g_X12_roundByNearest_4
      refine rn_t hl2 ?_
      unfold f_X12_roundByNearest_261
      refine rdg hK hR.1 0 rfl (by decide) ?_
      rw [n0.1]
      refine rn_f (nI_ge (b := nn R 0) (a := 0) (by omega) (by omega)) ?_
      refine r_gP hK 242 12 9 247 rfl (by decide) ?_
      refine rn_eq (q_aT (ks_a hK 247 0 3600 rfl) (60 * c + 0) ?_ (by omega) (by decide)) ?_
      · exact pk_mul 60 c
      · show Rn _ (fun r : Int32 × Dt => DVF z d r.2 ∧ r.1 = (nrE R c l).1 ∧ (r.1 = 0 → DRl z r.2 (nrE R c l).2))
        unfold nrE
        rcases hR.2 c 0 hc (by omega) with ⟨n, g1, g2, g3⟩ | ⟨g1, g3⟩
        · rw [g3, ite_p (show ∃ n, dst R c 0 n from ⟨n, g1⟩)]
          refine rn_t (nI_lt (b := 268435456) g2 (by decide)) ?_
          unfold f_X12_roundByNearest_287 f_X12_roundByNearest_310
          refine rn_bind (m_drivesEmpty (b := 0) (by omega) hK hN hW (by omega) hc g1 hR hL (by omega)) (fun r hr => ?_)
          obtain ⟨r1, r2, r3⟩ := hr
          have el := emL_len (R := R) (b := 0) 60 c
          have elen : (l ++ emL R 0 60 c).length = l.length + (emL R 0 60 c).length := List.length_append
          refine r_gI hK (i := 242) (c := 12) rfl ?_
          rw [r3.1]
          by_cases hle : (l ++ emL R 0 60 c).length ≤ 2000
          · rw [if_pos hle]
            exact rn_t (nI_le (b := 2000) hle (by decide)) (rn_some ⟨r2.dv, rfl, fun _ => r3⟩)
          · rw [if_neg hle]
            exact rn_f (nI_ge (b := (l ++ emL R 0 60 c).length) (a := 2000) (by omega) (by omega)) (rn_some ⟨r2.dv, rfl, fun q => absurd (show (-3 : Int32) = 0 from q) (by decide)⟩)
        · have g4 : ¬ ∃ n, dst R c 0 n := fun ⟨n, ⟨p, hp, _⟩, _⟩ => g1 p hp
          rw [g3, ite_n g4]
          exact rn_f (by decide) (rn_some ⟨DVF.rf, rfl, fun q => absurd (show (-8 : Int32) = 0 from q) (by decide)⟩)
    | succ m =>
      have hl5 : l5 = 1 := by
        rcases hk with ⟨-, q⟩ | ⟨q, -⟩
        · have : smN D (nn R 1) ≤ smN (fun _ => 0) (nn R 1) := smN_le _ (fun k hk => Nat.le_of_eq (q k hk))
          rw [smN_0f] at this
          omega
        · exact q
      refine rn_f (by rw [hl5]; decide) ?_
      rcases fn with ⟨q1, q2⟩ | ⟨q1, q2, q3⟩
      · have hl2 : l2 = -1 := by
          rcases hw with ⟨-, q⟩ | ⟨q, q3, -⟩
          · exact q
          · rw [q1] at q3
            cases q3
        have e : nrF R (m + 1) D c l = (-8, []) := ite_n q2
        rw [e]
        refine rn_f (fun q => q hl2) ?_
        exact rn_some ⟨DVF.rf, rfl, fun q => absurd (show (-8 : Int32) = 0 from q) (by decide)⟩
      · obtain ⟨w1, w2⟩ : l2 = nI (nrX R D c).1 ∧ l4 = nI (bgn R (nrX R D c).1 (nrX R D c).2) := by
          rcases hw with ⟨q, -⟩ | ⟨q, q4, q5, q6⟩
          · rw [q1] at q
            cases q
          · rw [q1] at q4
            have e := Option.some.inj q4
            rw [e]
            exact ⟨q5, q6⟩
        obtain ⟨g1, g2, g3, ⟨n, g4⟩, g5⟩ := nrB_ld hW hN q3
        have e : nrF R (m + 1) D c l = _ := ite_p q2
        rw [e]
        have hl2 : ¬ l2 = -1 := by rw [w1]; exact nI_m1 (by omega)
        refine rn_t hl2 ?_
        unfold f_X12_roundByNearest_208 f_X12_roundByNearest_255 f_X12_roundByNearest_258
        refine rn_f hl2 ?_
        rw [w1, w2]
        refine rn_bind (m_drivesEmpty (by omega) hK hN hW (bgn_lt hW hN g2) hc g4 hR hL (by omega)) (fun r hr => ?_)
        obtain ⟨r1, r2, r3⟩ := hr
        rw [r1]
        have el := emL_len (R := R) (b := bgn R (nrX R D c).1 (nrX R D c).2) 60 c
        have elen : (l ++ emL R (bgn R (nrX R D c).1 (nrX R D c).2) 60 c).length = l.length + (emL R (bgn R (nrX R D c).1 (nrX R D c).2) 60 c).length := List.length_append
        refine rn_bind (m_drive (v := 1) hK (by omega) r3) (fun d2 h3 => ?_)
        obtain ⟨s1, s2⟩ := h3
        have s2 : DRl z d2 (nrL R D c l) := s2
        have enl : (nrL R D c l).length = (l ++ emL R (bgn R (nrX R D c).1 (nrX R D c).2) 60 c).length + 1 := by
          unfold nrL
          rw [List.length_append]
          rfl
        have f2 : DVF z d d2 := (r2.tr s1).dv
        obtain ⟨e0, v1, v2⟩ := hD _ g2
        refine r_gP hK 242 12 28 260 rfl (by decide) ?_
        have e60 : d2.1 (z + 260) = d.1 (z + 260) := (r2.tr s1).2.1 _ (by omega) (by omega) (by omega) (by omega)
        refine rn_eq (q_aT (ks_a hK 260 0 150 rfl) (nrX R D c).1 rfl (by omega) (by decide)) ?_
        refine rn_eq (q_sI (ks_a hK 260 0 150 rfl) (nrX R D c).1 rfl (by omega) (by decide)) ?_
        rw [e60, v1, nI_1]
        have fw : DVF z d (wI d2 (z + 260) (nrX R D c).1 (nI (e0 + 1))) := f2.tr DVF.w
        refine rn_eq (m_leads hK (fw.rb.rc hR).1 (by omega)) ?_
        rw [g1]
        refine r_gI hK (i := 242) (c := 12) rfl ?_
        rw [wI_n (by omega), s2.1]
        by_cases hle : (nrL R D c l).length ≤ 2000
        · rw [if_pos hle]
          refine rn_t (nI_le (b := 2000) hle (by decide)) ?_
          have hsm := dec_sm (T := D) g2 g3
          refine rn_mono (no_loop hN1 hK hN hW m fu _ (dec1 D (nrX R D c).1) (nrL R D c l) _ (nI (nrX R D c).1) (by omega) (by omega) (fw.rb.rc hR) g5 (fun s hs => ?_) ⟨?_, fun i hi hi2 => ?_⟩ hle (nI_m1 (by omega))) (fun r h5 => ⟨fw.tr h5.1, h5.2⟩)
          · rw [wI_s]
            by_cases es : s = (nrX R D c).1
            · refine ⟨e0 + 1, by rw [es, va_up_s], ?_⟩
              have : dec1 D (nrX R D c).1 s = D (nrX R D c).1 - 1 := by
                unfold dec1
                rw [es, va_up_s]
              rw [this, es]
              omega
            · obtain ⟨e1, y1, y2⟩ := hD s hs
              refine ⟨e1, by rw [va_up_n es, e60]; exact y1, ?_⟩
              have : dec1 D (nrX R D c).1 s = D s := by
                unfold dec1
                rw [va_up_n es]
              rw [this]
              exact y2
          · rw [wI_n (by omega)]
            exact s2.1
          · rw [wI_n (by omega), wI_n (by omega), wI_n (by omega)]
            exact s2.2 i hi hi2
        · rw [if_neg hle]
          exact rn_f (nI_ge (b := (nrL R D c l).length) (a := 2000) (by omega) (by omega)) (rn_some ⟨fw, rfl, fun q => absurd (show (-3 : Int32) = 0 from q) (by decide)⟩)
noncomputable def nbR (R : Nat → Int32) : Int32 × List (Nat × Nat × Nat) := nrF R (smN (T0 R) (nn R 1)) (T0 R) 0 []
theorem m_roundByNearest (hN1 : 1000 ≤ N) (hK : KS sh z) (hN : WN R) (hW : WS R) (hR : RCx d z R) (h0 : 0 < nn R 0) (hL : DRl z d []) (hE : ∀ s, s < nn R 1 → d.1 (z + 260) s = 0) : Rn (f_X12_roundByNearest N sh (z + 242) d) (fun r => DVF z d r.2 ∧ r.1 = (nbR R).1 ∧ (r.1 = 0 → DRl z r.2 (nbR R).2)) := by
  unfold f_X12_roundByNearest
  refine rn_t (ks_o hK 242 12 rfl) ?_
  have b1 : smN (T0 R) (nn R 1) ≤ smN (fun _ => 2) (nn R 1) := smN_le _ (fun k hk => T0_le hW hk)
  rw [smN_const] at b1
  have n1 := hN.2.1.2
  exact no_loop hN1 hK hN hW _ N 0 (T0 R) [] d 0 rfl (by omega) hR h0 (fun s hs => ⟨0, hE s hs, Nat.zero_add _⟩) hL (by decide) (by decide)
end RN
/-! 9y.roundr.lean.txt -/
/-! round() of the reference -/
/-- the books with a new ROUND; what only readers see (JOININGS, PARTNERS ..) is left open -/
def RND (R : Nat → Int32) (l : List (Nat × Nat × Nat)) (R' : Nat → Int32) : Prop := (∀ k, k < 4 ∨ (8 < k ∧ k < 9426) → R' k = R k) ∧ R' 4 = nI l.length ∧ (∀ i, i < l.length → R' (9642 + 3 * i) = nI (l.getD i (0, 0, 0)).1 ∧ R' (9642 + 3 * i + 1) = nI (l.getD i (0, 0, 0)).2.1 ∧ R' (9642 + 3 * i + 2) = nI (l.getD i (0, 0, 0)).2.2) ∧ ∀ p, p < nn R 3 → ∀ x, x < 13 → R' (9426 + 13 * p + x) = if 5 ≤ x then 0 else R (9426 + 13 * p + x)
noncomputable def rdR (R : Nat → Int32) : Int32 × List (Nat × Nat × Nat) := @ite _ (BW R) (Classical.propDecidable _) (pbR R) (nbR R)
def RP (d : Dt) (z : Nat) (R : Nat → Int32) (n : Nat) : Prop := RI d z (d.1 (z + 243)) R true ∧ (∀ k, k < 4 ∨ (8 < k ∧ k < 9582) → d.1 (z + 243) k = R k) ∧ d.1 (z + 243) 4 = nI n
/-- a DRIVE stands in the books -/
def DRs (A : Nat → Int32) (l : List (Nat × Nat × Nat)) (i : Nat) : Prop := A (9642 + 3 * i) = nI (l.getD i (0, 0, 0)).1 ∧ A (9642 + 3 * i + 1) = nI (l.getD i (0, 0, 0)).2.1 ∧ A (9642 + 3 * i + 2) = nI (l.getD i (0, 0, 0)).2.2
section RO9
variable {sh : Sh} {d d0 d' : Dt} {z : Nat} {R R1 R2 K : Nat → Int32} {u : Bool} {N n m k i c p q x g : Nat} {l : List (Nat × Nat × Nat)} {Q : Int32 × Dt → Prop}
theorem ri_ag (h : RI d z R1 K u) (hN : nn R1 1 ≤ 150) (e : AG R1 R2) : RI d z R2 K u := by
  obtain ⟨h1, h2, h3, h4, h6⟩ := h
  have e0 : nn R2 0 = nn R1 0 := by unfold nn; rw [e 0 (by decide)]
  have hg : GEQ R1 R2 := ⟨e0, by unfold nn; rw [e 1 (by decide)], fun s k hs q1 q2 => (e _ (by omega)).symm⟩
  refine ⟨fun k hk => (h1 k hk).trans (e k hk), h2, h3, h4, ?_⟩
  rcases h6 with h6 | h6
  · exact Or.inl h6
  · exact Or.inr ⟨h6.1, fun a b ha hb => hg.dOK (h6.2 a b (by rw [← e0]; exact ha) (by rw [← e0]; exact hb))⟩
theorem rp_wn (h : RP d z R n) (hN : WN R) (hn : n ≤ 2000) : WN (d.1 (z + 243)) := by
  obtain ⟨-, h1, h2⟩ := h
  have e : ∀ k, k < 4 → nn (d.1 (z + 243)) k = nn R k := fun k hk => by unfold nn; rw [h1 k (Or.inl hk)]
  have e4 : nn (d.1 (z + 243)) 4 = n := by unfold nn; rw [h2, nI_clamp (by omega)]
  unfold WN
  rw [e 0 (by omega), e 1 (by omega), e 2 (by omega), e 3 (by omega), e4, h1 0 (by omega), h1 1 (by omega), h1 2 (by omega), h1 3 (by omega), h2]
  exact ⟨hN.1, hN.2.1, hN.2.2.1, hN.2.2.2.1, rfl, hn⟩
theorem rp_w {j : Nat} {v : Int32} (h : RP d z R n) (hN : WN R) (hn : n ≤ 2000) (hj : 9582 ≤ j) : RP (wI d (z + 243) j v) z R n := by
  have hw := rp_wn h hN hn
  obtain ⟨h0, h1, h2⟩ := h
  unfold RP
  rw [wI_s]
  refine ⟨ri_cellG h0 hw (by omega) (fun s k a b e => by omega), fun k hk => ?_, ?_⟩
  · rw [va_up_n (by omega)]
    exact h1 k hk
  · rw [va_up_n (by omega)]
    exact h2
theorem rd_all {n9 : Nat} (hK : KS sh z) (hN : WN R) (hn : n9 ≤ 2000) (hl : l.length = n9) (hk : ∀ d', W43 z d0 d' → RI d' z (d'.1 (z + 243)) R true → RND R l (d'.1 (z + 243)) → Rn (f_X12_round_319 N sh (z + 242) d') Q) (hN1 : 300 ≤ N) : ∀ (m p fu : Nat) (d : Dt), p + m = nn R 3 → m < fu → W43 z d0 d → RI d z (d.1 (z + 243)) R true → (∀ k, k < 4 ∨ (8 < k ∧ k < 9426) → d.1 (z + 243) k = R k) → d.1 (z + 243) 4 = nI n9 → (∀ i, i < n9 → DRs (d.1 (z + 243)) l i) → (∀ p', p' < nn R 3 → ∀ x, x < 13 → d.1 (z + 243) (9426 + 13 * p' + x) = if p' < p ∧ 5 ≤ x then 0 else R (9426 + 13 * p' + x)) → Rn (f_X12_round_298 N sh fu (z + 242) (nI p) d) Q
  | m, p, fu, d, hc, hf, hW, hI, h1, h4, hd, hp => by
    obtain ⟨fu, rfl⟩ : ∃ q, fu = q + 1 := ⟨fu - 1, by omega⟩
    have n3 := hN.2.2.2.1
    show Rn (g_X12_round_298 N sh (f_X12_round_298 N sh fu) (z + 242) (nI p) d) _
    unfold g_X12_round_298
    refine rdg hK (R := d.1 (z + 243)) (fun k _ => rfl) 3 rfl (by decide) ?_
    rw [h1 3 (by omega), n3.1]
    cases m with
    | zero =>
      refine rn_t (nI_le (by omega) (by omega)) ?_
      refine hk d hW hI ⟨h1, by rw [hl]; exact h4, fun i hi => hd i (by omega), fun p' hp' x hx => ?_⟩
      rw [hp p' hp' x hx]
      by_cases h5 : 5 ≤ x
      · rw [if_pos ⟨by omega, h5⟩, if_pos h5]
      · rw [if_neg (fun q => h5 q.2), if_neg h5]
    | succ m =>
      refine rn_f (nI_ge (by omega) (by omega)) ?_
      have wn : WN (d.1 (z + 243)) := by
        have e : ∀ k, k < 4 → nn (d.1 (z + 243)) k = nn R k := fun k hk => by unfold nn; rw [h1 k (Or.inl hk)]
        have e4 : nn (d.1 (z + 243)) 4 = n9 := by unfold nn; rw [h4, nI_clamp (by omega)]
        unfold WN
        rw [e 0 (by omega), e 1 (by omega), e 2 (by omega), e 3 (by omega), e4, h1 0 (by omega), h1 1 (by omega), h1 2 (by omega), h1 3 (by omega), h4]
        exact ⟨hN.1, hN.2.1, hN.2.2.1, hN.2.2.2.1, rfl, hn⟩
      refine rn_bind (m_losesPart2 (by omega) hK wn (by omega) hI) (fun d2 h2 => ?_)
      obtain ⟨w2, i2⟩ := h2
      have ea : ∀ k, k < 15642 → d2.1 (z + 243) k = lpR (d.1 (z + 243)) p k := i2.1
      have e11 : nn (lpR (d.1 (z + 243)) p) 1 = nn (d.1 (z + 243)) 1 := by unfold nn; rw [lpR_n (by omega)]
      rw [nI_1]
      refine rd_all hK hN hn hl hk hN1 m (p + 1) fu d2 (by omega) (by omega) (hW.tr w2) (ri_ag i2 (by rw [e11]; exact wn.2.1.2) (fun k hk => (ea k hk).symm)) (fun k hk => ?_) ?_ (fun i hi => ?_) (fun p' hp' x hx => ?_)
      · rw [ea k (by omega), lpR_n (by omega)]
        exact h1 k hk
      · rw [ea 4 (by omega), lpR_n (by omega)]
        exact h4
      · obtain ⟨q1, q2, q3⟩ := hd i hi
        unfold DRs
        rw [ea _ (by omega), lpR_n (by omega), ea _ (by omega), lpR_n (by omega), ea _ (by omega), lpR_n (by omega)]
        exact ⟨q1, q2, q3⟩
      · rw [ea _ (by omega)]
        by_cases ep : p' = p
        · subst ep
          by_cases h5 : 5 ≤ x
          · rw [if_pos ⟨by omega, h5⟩]
            exact zr_in (by omega)
          · rw [if_neg (fun q => h5 q.2), lpR_n (by omega), hp p' hp' x hx, if_neg (fun q => h5 q.2)]
        · rw [lpR_n (by omega), hp p' hp' x hx]
          by_cases h5 : p' < p ∧ 5 ≤ x
          · rw [if_pos h5, if_pos ⟨by omega, h5.2⟩]
          · rw [if_neg h5, if_neg (fun q => h5 ⟨by omega, q.2⟩)]
theorem rd_drv {n9 : Nat} (hK : KS sh z) (hN : WN R) (hn : n9 ≤ 2000) (hl : l.length = n9) (hD : DRl z d0 l) (hk : ∀ d', W43 z d0 d' → RP d' z R n9 → (∀ i, i < n9 → DRs (d'.1 (z + 243)) l i) → Rn (f_X12_round_296 N sh (z + 242) d') Q) : ∀ (m i fu : Nat) (d : Dt), i + m = n9 → m < fu → W43 z d0 d → RP d z R n9 → (∀ i', i' < i → DRs (d.1 (z + 243)) l i') → Rn (f_X12_round_224 N sh fu (z + 242) (nI i) d) Q
  | m, i, fu, d, hc, hf, hW, hI, hd => by
    obtain ⟨fu, rfl⟩ : ∃ q, fu = q + 1 := ⟨fu - 1, by omega⟩
    show Rn (g_X12_round_224 N sh (f_X12_round_224 N sh fu) (z + 242) (nI i) d) _
    have e2 : d.1 (z + 242) = d0.1 (z + 242) := hW.2 _ (by omega)
    have e7 : d.1 (z + 257) = d0.1 (z + 257) := hW.2 _ (by omega)
    have e8 : d.1 (z + 258) = d0.1 (z + 258) := hW.2 _ (by omega)
    have e9 : d.1 (z + 259) = d0.1 (z + 259) := hW.2 _ (by omega)
    unfold g_X12_round_224
    refine r_gI hK (i := 242) (c := 12) rfl ?_
    rw [e2, hD.1, hl]
    cases m with
    | zero =>
      refine rn_t (nI_le (by omega) (by omega)) ?_
      have e : i = n9 := by omega
      rw [e] at hd
      exact hk d hW hI hd
    | succ m =>
      refine rn_f (nI_ge (by omega) (by omega)) ?_
      have hi : i < l.length := by omega
      obtain ⟨q1, q2, q3⟩ := hD.2 i hi (by omega)
      have hA := ks_a hK 243 0 15642 rfl
      refine r_gP hK 242 12 0 243 rfl (by decide) ?_
      refine r_gP hK 242 12 25 257 rfl (by decide) ?_
      refine rn_eq (q_aT (ks_a hK 257 0 2000 rfl) i rfl (by omega) (by decide)) ?_
      refine rn_eq (q_sI hA (9642 + 3 * i) (ix_dr0 i) (by omega) (by decide)) ?_
      refine r_gP hK 242 12 0 243 rfl (by decide) ?_
      refine r_gP hK 242 12 26 258 rfl (by decide) ?_
      refine rn_eq (q_aT (ks_a hK 258 0 2000 rfl) i rfl (by omega) (by decide)) ?_
      refine rn_eq (q_sI hA (9642 + 3 * i + 1) (ix_dr i 1) (by omega) (by decide)) ?_
      refine r_gP hK 242 12 0 243 rfl (by decide) ?_
      refine r_gP hK 242 12 27 259 rfl (by decide) ?_
      refine rn_eq (q_aT (ks_a hK 259 0 2000 rfl) i rfl (by omega) (by decide)) ?_
      refine rn_eq (q_sI hA (9642 + 3 * i + 2) (ix_dr i 2) (by omega) (by decide)) ?_
      rw [wI_n (show z + 259 ≠ z + 243 by omega), wI_n (show z + 259 ≠ z + 243 by omega), wI_n (show z + 258 ≠ z + 243 by omega), e7, e8, e9, q1, q2, q3, nI_1]
      have f2 := rp_w (v := nI (l.getD i (0, 0, 0)).2.2) (j := 9642 + 3 * i + 2) (rp_w (v := nI (l.getD i (0, 0, 0)).2.1) (j := 9642 + 3 * i + 1) (rp_w (v := nI (l.getD i (0, 0, 0)).1) (j := 9642 + 3 * i) hI hN hn (by omega)) hN hn (by omega)) hN hn (by omega)
      refine rd_drv hK hN hn hl hD hk m (i + 1) fu _ (by omega) (by omega) hW.w.w.w f2 (fun i' hi' => ?_)
      unfold DRs
      rw [wI_s, wI_s, wI_s]
      by_cases ei : i' = i
      · subst ei
        refine ⟨?_, ?_, ?_⟩
        · rw [va_up_n (by omega), va_up_n (by omega), va_up_s]
        · rw [va_up_n (by omega), va_up_s]
        · rw [va_up_s]
      · obtain ⟨y1, y2, y3⟩ := hd i' (by omega)
        refine ⟨?_, ?_, ?_⟩
        · rw [va_up_n (by omega), va_up_n (by omega), va_up_n (by omega)]
          exact y1
        · rw [va_up_n (by omega), va_up_n (by omega), va_up_n (by omega)]
          exact y2
        · rw [va_up_n (by omega), va_up_n (by omega), va_up_n (by omega)]
          exact y3
theorem ix_pt (a : Nat) : (9582 : Int32) + nI a = nI (9582 + a) := nI_add 9582 a
theorem rd_prt {n9 : Nat} (hK : KS sh z) (hN : WN R) (hn : n9 ≤ 2000) (hg : g ≤ 30) (h21 : d0.1 (z + 242) 21 = nI g) (hP : ∀ k, k < g → ∃ a b, a < 60 ∧ b < 60 ∧ d0.1 (z + 255) k = nI a ∧ d0.1 (z + 256) k = nI b) (hk : ∀ d', W43 z d0 d' → RP d' z R n9 → Rn (f_X12_round_222 N sh (z + 242) d') Q) : ∀ (m i fu : Nat) (d : Dt), i + m = g → m < fu → W43 z d0 d → RP d z R n9 → Rn (f_X12_round_166 N sh fu (z + 242) (nI i) d) Q
  | m, i, fu, d, hc, hf, hW, hI => by
    obtain ⟨fu, rfl⟩ : ∃ q, fu = q + 1 := ⟨fu - 1, by omega⟩
    show Rn (g_X12_round_166 N sh (f_X12_round_166 N sh fu) (z + 242) (nI i) d) _
    have e2 : d.1 (z + 242) = d0.1 (z + 242) := hW.2 _ (by omega)
    have e5 : d.1 (z + 255) = d0.1 (z + 255) := hW.2 _ (by omega)
    have e6 : d.1 (z + 256) = d0.1 (z + 256) := hW.2 _ (by omega)
    unfold g_X12_round_166
    refine r_gI hK (i := 242) (c := 12) rfl ?_
    rw [e2, h21]
    cases m with
    | zero =>
      refine rn_t (nI_le (by omega) (by omega)) ?_
      exact hk d hW hI
    | succ m =>
      refine rn_f (nI_ge (by omega) (by omega)) ?_
      obtain ⟨a, b, ha, hb, p1, p2⟩ := hP i (by omega)
      have hA := ks_a hK 243 0 15642 rfl
      refine r_gP hK 242 12 0 243 rfl (by decide) ?_
      refine r_gP hK 242 12 22 255 rfl (by decide) ?_
      refine rn_eq (q_aT (ks_a hK 255 0 30 rfl) i rfl (by omega) (by decide)) ?_
      refine r_gP hK 242 12 23 256 rfl (by decide) ?_
      refine rn_eq (q_aT (ks_a hK 256 0 30 rfl) i rfl (by omega) (by decide)) ?_
      rw [e5, e6, p1, p2]
      refine rn_eq (q_sI hA (9582 + a) (ix_pt a) (by omega) (by decide)) ?_
      refine r_gP hK 242 12 0 243 rfl (by decide) ?_
      refine r_gP hK 242 12 23 256 rfl (by decide) ?_
      refine rn_eq (q_aT (ks_a hK 256 0 30 rfl) i rfl (by omega) (by decide)) ?_
      refine r_gP hK 242 12 22 255 rfl (by decide) ?_
      refine rn_eq (q_aT (ks_a hK 255 0 30 rfl) i rfl (by omega) (by decide)) ?_
      rw [wI_n (show z + 256 ≠ z + 243 by omega), wI_n (show z + 255 ≠ z + 243 by omega), e5, e6, p1, p2]
      refine rn_eq (q_sI hA (9582 + b) (ix_pt b) (by omega) (by decide)) ?_
      rw [nI_1]
      exact rd_prt hK hN hn hg h21 hP hk m (i + 1) fu _ (by omega) (by omega) hW.w.w (rp_w (rp_w hI hN hn (by omega)) hN hn (by omega))
theorem rd_non {n9 : Nat} (hK : KS sh z) (hN : WN R) (hn : n9 ≤ 2000) (hk : ∀ d', W43 z d0 d' → RP d' z R n9 → Rn (f_X12_round_164 N sh (z + 242) d') Q) : ∀ (m i fu : Nat) (d : Dt), i + m = 60 → m < fu → W43 z d0 d → RP d z R n9 → Rn (f_X12_round_141 N sh fu (z + 242) (nI i) d) Q
  | 0, i, fu, d, hc, hf, hW, hI => by
    obtain ⟨fu, rfl⟩ : ∃ q, fu = q + 1 := ⟨fu - 1, by omega⟩
    show Rn (g_X12_round_141 N sh (f_X12_round_141 N sh fu) (z + 242) (nI i) d) _
    unfold g_X12_round_141
    refine rn_t (nI_le (a := 60) (by omega) (by omega)) ?_
    exact hk d hW hI
  | m + 1, i, fu, d, hc, hf, hW, hI => by
    obtain ⟨fu, rfl⟩ : ∃ q, fu = q + 1 := ⟨fu - 1, by omega⟩
    show Rn (g_X12_round_141 N sh (f_X12_round_141 N sh fu) (z + 242) (nI i) d) _
    unfold g_X12_round_141
    refine rn_f (nI_ge (b := 60) (by omega) (by decide)) ?_
    refine r_gP hK 242 12 0 243 rfl (by decide) ?_
    refine rn_eq (q_sI (ks_a hK 243 0 15642 rfl) (9582 + i) (ix_pt i) (by omega) (by decide)) ?_
    rw [nI_1]
    exact rd_non hK hN hn hk m (i + 1) fu _ (by omega) (by omega) hW.w (rp_w hI hN hn (by omega))
/-- the outcome -/
def RDO (z : Nat) (R K : Nat → Int32) (u : Bool) (o : Int32 × List (Nat × Nat × Nat)) (d : Dt) (r : Int32 × Dt) : Prop := (o.1 ≠ 0 ∧ RO z R K u (o.1, none) d r) ∨ (o.1 = 0 ∧ ∃ R', RND R o.2 R' ∧ RO z R K u (nI o.2.length, some R') d r)
theorem ri_cell5 {j : Nat} {v : Int32} (h : RI d z (d.1 (z + 243)) R true) (hN : WN (d.1 (z + 243))) (hj : 2 ≤ j) (hj2 : j < 16) : RI (wI d (z + 243) j v) z ((wI d (z + 243) j v).1 (z + 243)) R true := by
  rw [wI_s]
  exact ri_cellG h hN hj (fun s k a b e => by omega)
theorem m_round105 {v : Int32} (hN1 : 3000 ≤ N) (hK : KS sh z) (hN : WN R) (hn : l.length ≤ 2000) (hD : DRl z d l) (hg : g ≤ 30) (h21 : d.1 (z + 242) 21 = nI g) (hP : ∀ k, k < g → ∃ a b, a < 60 ∧ b < 60 ∧ d.1 (z + 255) k = nI a ∧ d.1 (z + 256) k = nI b) (hI : RI d z (d.1 (z + 243)) R true) (hA : ∀ k, k < 4 ∨ (4 < k ∧ k < 9582) → d.1 (z + 243) k = R k) (h4 : d.1 (z + 243) 4 = nI l.length) : Rn (f_X12_round_105 N sh (z + 242) (z + 243) 5 v d) (fun r => r.1 = nI l.length ∧ MFR z d r.2 ∧ RI r.2 z (r.2.1 (z + 243)) R true ∧ RND R l (r.2.1 (z + 243))) := by
  have hS := ks_a hK 243 0 15642 rfl
  have n3 := hN.2.2.2.1.2
  have wn : ∀ d' : Dt, (∀ k, k < 4 → d'.1 (z + 243) k = R k) → d'.1 (z + 243) 4 = nI l.length → WN (d'.1 (z + 243)) := fun d' h1 h4 => by
    have e : ∀ k, k < 4 → nn (d'.1 (z + 243)) k = nn R k := fun k hk => by unfold nn; rw [h1 k hk]
    have e4 : nn (d'.1 (z + 243)) 4 = l.length := by unfold nn; rw [h4, nI_clamp (by omega)]
    unfold WN
    rw [e 0 (by omega), e 1 (by omega), e 2 (by omega), e 3 (by omega), e4, h1 0 (by omega), h1 1 (by omega), h1 2 (by omega), h1 3 (by omega), h4]
    exact ⟨hN.1, hN.2.1, hN.2.2.1, hN.2.2.2.1, rfl, hn⟩
  have nx : ∀ {d' : Dt} {j : Nat} {w : Int32}, 5 ≤ j → j < 9 → RI d' z (d'.1 (z + 243)) R true ∧ (∀ k, k < 4 → d'.1 (z + 243) k = R k) ∧ d'.1 (z + 243) 4 = nI l.length ∧ (∀ k, 8 < k → k < 9582 → d'.1 (z + 243) k = R k) → RI (wI d' (z + 243) j w) z ((wI d' (z + 243) j w).1 (z + 243)) R true ∧ (∀ k, k < 4 → (wI d' (z + 243) j w).1 (z + 243) k = R k) ∧ (wI d' (z + 243) j w).1 (z + 243) 4 = nI l.length ∧ (∀ k, 8 < k → k < 9582 → (wI d' (z + 243) j w).1 (z + 243) k = R k) := fun {d' j w} h5 h9 h => by
    refine ⟨ri_cell5 h.1 (wn d' h.2.1 h.2.2.1) (by omega) (by omega), fun k hk => ?_, ?_, fun k hk hk2 => ?_⟩
    · rw [wI_s, va_up_n (by omega)]
      exact h.2.1 k hk
    · rw [wI_s, va_up_n (by omega)]
      exact h.2.2.1
    · rw [wI_s, va_up_n (by omega)]
      exact h.2.2.2 k hk hk2
  have s0 : RI d z (d.1 (z + 243)) R true ∧ (∀ k, k < 4 → d.1 (z + 243) k = R k) ∧ d.1 (z + 243) 4 = nI l.length ∧ (∀ k, 8 < k → k < 9582 → d.1 (z + 243) k = R k) := ⟨hI, fun k hk => hA k (Or.inl hk), h4, fun k h1 h2 => hA k (Or.inr ⟨by omega, h2⟩)⟩
  have ef : ∀ {d' : Dt} {j : Nat} {w : Int32}, (wI d' (z + 243) j w).1 (z + 242) = d'.1 (z + 242) := fun {d' j w} => wI_n (by omega)
  unfold f_X12_round_105
  refine rn_eq (q_sI hS 5 rfl (by decide) (by decide)) ?_
  refine r_gP hK 242 12 0 243 rfl (by decide) ?_
  refine r_gI hK (i := 242) (c := 12) rfl ?_
  refine rn_eq (q_sI hS 6 rfl (by decide) (by decide)) ?_
  refine r_gP hK 242 12 0 243 rfl (by decide) ?_
  refine r_gI hK (i := 242) (c := 12) rfl ?_
  refine rn_eq (q_sI hS 7 rfl (by decide) (by decide)) ?_
  refine r_gP hK 242 12 0 243 rfl (by decide) ?_
  refine r_gI hK (i := 242) (c := 12) rfl ?_
  refine rn_eq (q_sI hS 8 rfl (by decide) (by decide)) ?_
  repeat rw [ef]
  have s1 := nx (w := d.1 (z + 242) 21) (show 5 ≤ 8 by decide) (by decide) (nx (w := d.1 (z + 242) 20) (show 5 ≤ 7 by decide) (by decide) (nx (w := d.1 (z + 242) 19) (show 5 ≤ 6 by decide) (by decide) (nx (w := v) (show 5 ≤ 5 by decide) (by decide) s0)))
  have w4 : W43 z d (wI (wI (wI (wI d (z + 243) 5 v) (z + 243) 6 (d.1 (z + 242) 19)) (z + 243) 7 (d.1 (z + 242) 20)) (z + 243) 8 (d.1 (z + 242) 21)) := W43.rf.w.w.w.w
  refine rd_non (d0 := d) (n9 := l.length) hK hN hn (fun d1 f1 p1 => ?_) 60 0 N _ rfl (by omega) w4 ⟨s1.1, fun k hk => ?_, s1.2.2.1⟩
  · unfold f_X12_round_164
    refine rd_prt (d0 := d) (n9 := l.length) hK hN hn hg h21 hP (fun d2 f2 p2 => ?_) g 0 N d1 (by omega) (by omega) f1 p1
    unfold f_X12_round_222
    refine rd_drv (d0 := d) (n9 := l.length) hK hN hn rfl hD (fun d3 f3 p3 q3 => ?_) l.length 0 N d2 (by omega) (by omega) f2 p2 (fun i hi => absurd hi (Nat.not_lt_zero i))
    unfold f_X12_round_296
    refine rd_all (d0 := d) (n9 := l.length) hK hN hn rfl (fun d4 f4 i4 r4 => ?_) (by omega) (nn R 3) 0 N d3 (by omega) (by omega) f3 p3.1 (fun k hk => p3.2.1 k (by omega)) p3.2.2 q3 (fun p' hp' x hx => ?_)
    · unfold f_X12_round_319
      refine r_gI hK (i := 242) (c := 12) rfl ?_
      rw [f4.2 (z + 242) (by omega), hD.1]
      refine rn_eq (m_says hK) (rn_some ⟨rfl, f4.mfr.tr (MFR.wI (by decide) (by decide)), ?_, ?_⟩)
      · have e : (wI d4 (z + 242) 3 0).1 (z + 243) = d4.1 (z + 243) := wI_n (by omega)
        show RI (wI d4 (z + 242) 3 0) z ((wI d4 (z + 242) 3 0).1 (z + 243)) R true
        rw [e]
        exact ri_rg i4 (RG.w242 (k := 3) (v := 0) (Or.inl rfl))
      · show RND R l ((wI d4 (z + 242) 3 0).1 (z + 243))
        rw [wI_n (by omega)]
        exact r4
    · rw [if_neg (fun q => absurd q.1 (Nat.not_lt_zero p'))]
      exact p3.2.1 _ (by omega)
  · rcases hk with hk | ⟨hk, hk2⟩
    · exact s1.2.1 k hk
    · exact s1.2.2.2 k hk hk2
theorem zero_loop (hK : KS sh z) (hk : ∀ d', RBF z d0 d' → d'.1 (z + 242) = d0.1 (z + 242) → (∀ s, s < 150 → d'.1 (z + 260) s = 0) → Rn (f_X12_round_46 N sh (z + 242) d') Q) : ∀ (m i fu : Nat) (d : Dt), i + m = 150 → m < fu → RBF z d0 d → d.1 (z + 242) = d0.1 (z + 242) → (∀ s, s < i → d.1 (z + 260) s = 0) → Rn (f_X12_round_26 N sh fu (z + 242) (nI i) d) Q
  | 0, i, fu, d, hc, hf, hF, he, hs => by
    obtain ⟨fu, rfl⟩ : ∃ q, fu = q + 1 := ⟨fu - 1, by omega⟩
    show Rn (g_X12_round_26 N sh (f_X12_round_26 N sh fu) (z + 242) (nI i) d) _
    unfold g_X12_round_26
    refine rn_t (nI_le (a := 150) (by omega) (by omega)) ?_
    exact hk d hF he (fun s h => hs s (by omega))
  | m + 1, i, fu, d, hc, hf, hF, he, hs => by
    obtain ⟨fu, rfl⟩ : ∃ q, fu = q + 1 := ⟨fu - 1, by omega⟩
    show Rn (g_X12_round_26 N sh (f_X12_round_26 N sh fu) (z + 242) (nI i) d) _
    unfold g_X12_round_26
    refine rn_f (nI_ge (b := 150) (by omega) (by decide)) ?_
    refine r_gP hK 242 12 28 260 rfl (by decide) ?_
    refine rn_eq (q_sI (ks_a hK 260 0 150 rfl) i rfl (by omega) (by decide)) ?_
    rw [nI_1]
    refine zero_loop hK hk m (i + 1) fu _ (by omega) (by omega) (hF.tr DVF.w.rb) ((wI_n (by omega)).trans he) (fun s h => ?_)
    rw [wI_s]
    by_cases e : s = i
    · rw [e, va_up_s]
    · rw [va_up_n e]
      exact hs s (by omega)
theorem drA_len : ∀ (k : Nat) (T : Nat → Nat) (c : Nat) (D : Nat → Nat), (drA R k T c D).length ≤ k
  | 0, _, _, _ => Nat.le_refl 0
  | k + 1, T, c, D => by
    by_cases h : ∃ s, lvS R T c s
    · rw [show drA R (k + 1) T c D = _ from ite_p h]
      exact Nat.succ_le_succ (drA_len k _ _ _)
    · rw [show drA R (k + 1) T c D = _ from ite_n h]
      exact Nat.zero_le _
theorem nrE_len (h : (nrE R c l).1 = 0) : (nrE R c l).2.length ≤ 2000 := by
  unfold nrE at h ⊢
  by_cases h1 : ∃ n, dst R c 0 n
  · rw [ite_p h1] at h ⊢
    by_cases h2 : (l ++ emL R 0 60 c).length ≤ 2000
    · rw [if_pos h2]
      exact h2
    · rw [if_neg h2] at h
      exact absurd (show (-3 : Int32) = 0 from h) (by decide)
  · rw [ite_n h1] at h
    exact absurd (show (-8 : Int32) = 0 from h) (by decide)
theorem nrF_len : ∀ (m : Nat) (D : Nat → Nat) (c : Nat) (l : List (Nat × Nat × Nat)), (nrF R m D c l).1 = 0 → (nrF R m D c l).2.length ≤ 2000
  | 0, _, _, _, h => nrE_len h
  | m + 1, D, c, l, h => by
    by_cases h1 : ∃ t k, nrB R D c t k
    · rw [show nrF R (m + 1) D c l = _ from ite_p h1] at h ⊢
      by_cases h2 : (nrL R D c l).length ≤ 2000
      · rw [if_pos h2] at h ⊢
        exact nrF_len m _ _ _ h
      · rw [if_neg h2] at h
        exact absurd (show (-3 : Int32) = 0 from h) (by decide)
    · rw [show nrF R (m + 1) D c l = _ from ite_n h1] at h
      exact absurd (show (-8 : Int32) = 0 from h) (by decide)
theorem rdR_len (h : (rdR R).1 = 0) : (rdR R).2.length ≤ 2000 := by
  unfold rdR at h ⊢
  by_cases hB : BW R
  · rw [ite_p hB] at h ⊢
    unfold pbR at h ⊢
    cases hj : joinF R 60 (T0 R) with
    | none =>
      rw [hj] at h
      exact absurd (show (-8 : Int32) = 0 from h) (by decide)
    | some T' =>
      rw [hj] at h
      by_cases h2 : smN (tsP R T') (nn R 1) ≤ 2000
      · show (if smN (tsP R T') (nn R 1) ≤ 2000 then ((0 : Int32), drA R 2000 (tsP R T') 0 (T0 R)) else (-3, [])).2.length ≤ 2000
        rw [if_pos h2]
        exact drA_len _ _ _ _
      · have h : (if smN (tsP R T') (nn R 1) ≤ 2000 then ((0 : Int32), drA R 2000 (tsP R T') 0 (T0 R)) else (-3, [])).1 = 0 := h
        rw [if_neg h2] at h
        exact absurd (show (-3 : Int32) = 0 from h) (by decide)
  · rw [ite_n hB] at h ⊢
    exact nrF_len _ _ _ _ h
theorem m_round (hNf : 2 ^ 40 ≤ N) (hK : KS sh z) (h : RI d z R K u) (hR : WF R) : Rn (f_X12_round N sh (z + 242) d) (RDO z R K u (rdR R) d) := by
  have hN := hR.1
  have hW := hR.2.2.1
  unfold f_X12_round
  refine rn_t (ks_o hK 242 12 rfl) ?_
  refine rn_bind (m_reckon hNf hK h hR) (fun d1 h1 => ?_)
  obtain ⟨k1, i1, k3⟩ := h1
  refine r_pI hK (i := 242) (c := 12) rfl ?_
  refine r_pI hK (i := 242) (c := 12) rfl ?_
  refine r_pI hK (i := 242) (c := 12) rfl ?_
  refine r_pI hK (i := 242) (c := 12) rfl ?_
  have fp : ∀ {d' : Dt} {k : Nat}, (k = 19 ∨ k = 20 ∨ k = 21 ∨ k = 24) → RBF z d' (wI d' (z + 242) k 0) := fun {d' k} hk => ⟨rfl, fun a q _ => wI_n q, fun k' _ q1 q2 q3 q4 => by rw [wI_s, va_up_n (by omega)]⟩
  have f4 : RBF z d1 (wI (wI (wI (wI d1 (z + 242) 19 0) (z + 242) 20 0) (z + 242) 21 0) (z + 242) 24 0) := (((fp (Or.inl rfl)).tr (fp (Or.inr (Or.inl rfl)))).tr (fp (Or.inr (Or.inr (Or.inl rfl))))).tr (fp (Or.inr (Or.inr (Or.inr rfl))))
  have c20 : (wI (wI (wI (wI d1 (z + 242) 19 0) (z + 242) 20 0) (z + 242) 21 0) (z + 242) 24 0).1 (z + 242) 20 = 0 := by
    rw [wI_s, va_up_n (by decide), wI_s, va_up_n (by decide), wI_s, va_up_s]
  have c21 : (wI (wI (wI (wI d1 (z + 242) 19 0) (z + 242) 20 0) (z + 242) 21 0) (z + 242) 24 0).1 (z + 242) 21 = 0 := by
    rw [wI_s, va_up_n (by decide), wI_s, va_up_s]
  have c24 : (wI (wI (wI (wI d1 (z + 242) 19 0) (z + 242) 20 0) (z + 242) 21 0) (z + 242) 24 0).1 (z + 242) 24 = 0 := by
    rw [wI_s, va_up_s]
  have hR1 : RCx d1 z R := ⟨i1.1, k3⟩
  have fin : ∀ (w : Int32) (o : Int32 × List (Nat × Nat × Nat)) (r : Int32 × Dt), o = rdR R → RBF z d1 r.2 → r.1 = o.1 → (r.1 = 0 → DRl z r.2 o.2 ∧ ∃ g, g ≤ 30 ∧ r.2.1 (z + 242) 21 = nI g ∧ ∀ k, k < g → ∃ a b, a < 60 ∧ b < 60 ∧ r.2.1 (z + 255) k = nI a ∧ r.2.1 (z + 256) k = nI b) → Rn (f_X12_round_66 N sh (z + 242) w r.1 r.2) (RDO z R K u (rdR R) d) := fun w o r ho hf h1 hd => by
    subst ho
    have ir := ri_rb i1 hf
    have hm := k1.mfr.tr hf.mfr
    unfold f_X12_round_66
    by_cases h0 : r.1 = 0
    · refine rn_t h0 ?_
      obtain ⟨dd1, g, g1, g2, g3⟩ := hd h0
      have hl := rdR_len (h1.symm.trans h0)
      refine rn_eq (m_keeps hK (by omega) rfl) ?_
      obtain ⟨kd, ke, ki, km⟩ := ri_keeps (N := N) ir hK (by omega)
      have kd2 : kd = (wI (va_up r.2.1 (z + 244) (fun k => if k < 15642 then r.2.1 (z + 243) k else r.2.1 (z + 244) k), r.2.2) (z + 242) 2 1) := Option.some.inj (ke.symm.trans (m_keeps hK (by omega) rfl))
      rw [← kd2]
      have kc : ∀ a, a ≠ z + 242 → a ≠ z + 244 → kd.1 a = r.2.1 a := fun a q1 q2 => by
        rw [kd2, wI_n q1]
        exact va_up_n q2
      have kf : ∀ k, k ≠ 2 → kd.1 (z + 242) k = r.2.1 (z + 242) k := fun k hk => by
        rw [kd2, wI_s, va_up_n hk]
        show va_up r.2.1 (z + 244) _ (z + 242) k = _
        rw [va_up_n (by omega)]
      have hA9 : ∀ k, k < 15642 → kd.1 (z + 243) k = R k := ki.1
      have hS := ks_a hK 243 0 15642 rfl
      refine r_gP hK 242 12 0 243 rfl (by decide) ?_
      refine r_gI hK (i := 242) (c := 12) rfl ?_
      rw [kf 24 (by decide), dd1.1]
      refine rn_eq (q_sI hS 4 rfl (by decide) (by decide)) ?_
      refine r_gP hK 242 12 0 243 rfl (by decide) ?_
      have n4 := hN.2.2.2.2
      have wnk : WN (kd.1 (z + 243)) := by
        have e : ∀ k, k < 5 → nn (kd.1 (z + 243)) k = nn R k := fun k hk => by unfold nn; rw [hA9 k (by omega)]
        unfold WN
        rw [e 0 (by omega), e 1 (by omega), e 2 (by omega), e 3 (by omega), e 4 (by omega), hA9 0 (by omega), hA9 1 (by omega), hA9 2 (by omega), hA9 3 (by omega), hA9 4 (by omega)]
        exact hN
      have ik : RI kd z (kd.1 (z + 243)) R true := ri_ag ki hN.2.1.2 (fun k hk => (hA9 k hk).symm)
      have i5 : RI (wI kd (z + 243) 4 (nI (rdR R).2.length)) z ((wI kd (z + 243) 4 (nI (rdR R).2.length)).1 (z + 243)) R true := ri_cell5 ik wnk (by decide) (by decide)
      have dl : DRl z (wI kd (z + 243) 4 (nI (rdR R).2.length)) (rdR R).2 := ⟨by rw [wI_n (by omega), kf 24 (by decide)]; exact dd1.1, fun i hi hi2 => by
        rw [wI_n (by omega), wI_n (by omega), wI_n (by omega), kc _ (by omega) (by omega), kc _ (by omega) (by omega), kc _ (by omega) (by omega)]
        exact dd1.2 i hi hi2⟩
      have go : ∀ v, Rn (f_X12_round_105 N sh (z + 242) (z + 243) 5 v (wI kd (z + 243) 4 (nI (rdR R).2.length))) (RDO z R K u (rdR R) d) := fun v => by
        refine rn_mono (m_round105 (l := (rdR R).2) (g := g) (by omega) hK hN hl dl g1 (by rw [wI_n (by omega), kf 21 (by decide)]; exact g2) (fun k hk => ?_) i5 (fun k hk => ?_) (by rw [wI_s, va_up_s])) (fun r9 h9 => ?_)
        · rw [wI_n (by omega), wI_n (by omega), kc _ (by omega) (by omega), kc _ (by omega) (by omega)]
          exact g3 k hk
        · rw [wI_s, va_up_n (by omega)]
          exact hA9 k (by omega)
        · obtain ⟨y1, y2, y3, y4⟩ := h9
          have m9 : MFR z kd (wI kd (z + 243) 4 (nI (rdR R).2.length)) := W43.rf.w.mfr
          refine Or.inr ⟨h1.symm.trans h0, _, y4, y1, ((hm.tr km).tr m9).tr y2, y3⟩
      exact rn_ite (fun _ => go 1) (fun _ => go 2)
    · refine rn_f h0 ?_
      refine rn_mono (ro_refuses (o := ((rdR R).1, none)) hK ir (by rw [h1])) (fun r9 h9 => Or.inl ⟨fun e => h0 (h1.trans e), h9.1, hm.tr h9.2.1, h9.2.2⟩)
  refine zero_loop (d0 := wI (wI (wI (wI d1 (z + 242) 19 0) (z + 242) 20 0) (z + 242) 21 0) (z + 242) 24 0) hK (fun d5 f5 e5 z5 => ?_) 150 0 N _ rfl (by omega) RBF.rf rfl (fun s h => absurd h (Nat.not_lt_zero s))
  have f14 := f4.tr f5
  have hR5 := f14.rc hR1
  have n1 := hN.2.1.2
  have hL5 : DRl z d5 [] := ⟨by rw [e5]; exact c24, fun i hi => absurd hi (Nat.not_lt_zero i)⟩
  unfold f_X12_round_46
  refine rn_bind (m_isOneWay (by omega) hK hN hW hR5.1) (fun v hv => ?_)
  rcases hv with ⟨hv, hB⟩ | ⟨hv, hB⟩
  · refine rn_t hv ?_
    have e : rdR R = pbR R := ite_p hB
    refine rn_bind (m_roundByPairs hNf hK hN hW hB hR5 (by rw [e5]; exact c20) (by rw [e5]; exact c21) hL5 (fun s hs => z5 s (by omega))) (fun r hr => ?_)
    exact fin v (pbR R) r e.symm (f14.tr hr.1) hr.2.1 hr.2.2
  · refine rn_f (by rw [hv]; decide) ?_
    have e : rdR R = nbR R := ite_n hB
    have h0 : 0 < nn R 0 := by
      rcases Nat.eq_zero_or_pos (nn R 0) with q | q
      · refine absurd (fun s hs _ => ?_) hB
        obtain ⟨-, a2, -⟩ := ws_e hW hN hs
        omega
      · exact q
    refine rn_bind (m_roundByNearest (by omega) hK hN hW hR5 h0 hL5 (fun s hs => z5 s (by omega))) (fun r hr => ?_)
    refine fin v (nbR R) r e.symm (f14.tr hr.1.rb) hr.2.1 (fun q => ⟨hr.2.2 q, 0, by decide, ?_, fun k hk => absurd hk (Nat.not_lt_zero k)⟩)
    rw [hr.1.2.2 21 (by decide), e5]
    exact c21
end RO9
/-! 9za.kpair.lean.txt -/
/-! PAIRS of the class -/
def KPF (z : Nat) (d d' : Dt) : Prop := d'.2 = d.2 ∧ (∀ a, a ≠ z + 201 → a ≠ z + 219 → a ≠ z + 220 → d'.1 a = d.1 a) ∧ ∀ k, k ≠ 10 → k ≠ 11 → d'.1 (z + 201) k = d.1 (z + 201) k
section KPR
variable {s s' : AS} {sh : Sh} {d d0 d' : Dt} {z : Nat} {ow ow' : Nat → Nat} {R K : Nat → Int32} {u : Bool} {y : YL} {N n m k i j c p q x e v a b S cc : Nat} {P : Nat → Nat × Nat} {T : Nat → Nat}
theorem KPF.rf : KPF z d d := ⟨rfl, fun _ _ _ _ => rfl, fun _ _ _ => rfl⟩
theorem KPF.tr {d1 d2 : Dt} (h1 : KPF z d d1) (h2 : KPF z d1 d2) : KPF z d d2 := ⟨h2.1.trans h1.1, fun a q1 q2 q3 => (h2.2.1 a q1 q2 q3).trans (h1.2.1 a q1 q2 q3), fun k q1 q2 => (h2.2.2 k q1 q2).trans (h1.2.2 k q1 q2)⟩
theorem KPF.w {k : Nat} {v : Int32} (hk : k = 10 ∨ k = 11) : KPF z d (wI d (z + 201) k v) := ⟨rfl, fun a q _ _ => wI_n q, fun j q1 q2 => by rw [wI_s, va_up_n (by omega)]⟩
theorem KPF.w1 {k : Nat} {v : Int32} : KPF z d (wI d (z + 219) k v) := ⟨rfl, fun a _ q _ => wI_n q, fun j _ _ => by rw [wI_n (by omega)]⟩
theorem KPF.w2 {k : Nat} {v : Int32} : KPF z d (wI d (z + 220) k v) := ⟨rfl, fun a _ _ q => wI_n q, fun j _ _ => by rw [wI_n (by omega)]⟩
theorem KPF.fd (h : KPF z d d') (hw : OWS ow z) : FD (IX z ow 201 220) d d' := fun a ha => by
  have q : ∀ i, i = 201 ∨ i = 219 ∨ i = 220 → a ≠ z + i := fun i hi e => by
    refine ha ?_
    rw [e]
    unfold IX
    rcases hi with rfl | rfl | rfl
    · rw [onr_s (hw 201 (by decide) (by decide)) (by decide)]
      omega
    · rw [onr_s (hw 219 (by decide) (by decide)) (by decide)]
      omega
    · rw [onr_s (hw 220 (by decide) (by decide)) (by decide)]
      omega
  exact ⟨h.2.1 a (q 201 (Or.inl rfl)) (q 219 (Or.inr (Or.inl rfl))) (q 220 (Or.inr (Or.inr rfl))), by rw [h.1], by rw [h.1], by rw [h.1]⟩
theorem ci_kp (h : CI s z ow R K u y cc) (l : KPF z s.2 d') : CI (s.1, d') z ow R K u y cc ∧ RFR z s (s.1, d') := by
  refine ci_pr h (l.fd h.2.1) (by rw [l.1]) ?_ ?_ (l.2.2 7 (by decide) (by decide))
  · obtain ⟨hK, hw, b1, b2, b3, b4, b5, b6, b7, b8, b9, b10, b11⟩ := h
    unfold PRl
    rw [l.2.2 4 (by decide) (by decide), l.2.2 3 (by decide) (by decide), l.2.1 (z + 202) (by omega) (by omega) (by omega)]
    exact b7
  · obtain ⟨hK, hw, b1, b2, b3, b4, b5, b6, b7, b8, b9, b10, b11⟩ := h
    rcases b8 with q | ⟨q, h1, h2, a, h3, h4⟩
    · left
      rw [l.2.2 7 (by decide) (by decide)]
      exact q
    · right
      obtain ⟨-, -, ⟨a', t1, t2, t3, t4, t5, t6⟩, -⟩ := b3
      have ea : a' = a := by
        rw [h3] at t1
        exact (Option.some.inj t1).symm
      subst ea
      have x : ∀ i, i = 201 ∨ i = 219 ∨ i = 220 → a' ≠ z + i := fun i hi e => by
        have : ow (z + i) = 0 := by
          rcases hi with rfl | rfl | rfl
          · exact hw 201 (by decide) (by decide)
          · exact hw 219 (by decide) (by decide)
          · exact hw 220 (by decide) (by decide)
        rw [e, this] at t2
        omega
      refine ⟨by rw [l.2.2 7 (by decide) (by decide)]; exact q, h1, fun i j hij hj => ?_, a', by rw [l.1]; exact h3, fun S hS => ?_⟩
      · rw [l.2.1 (z + (204 + i)) (by omega) (by omega) (by omega)]
        exact h2 i j hij hj
      · rw [l.2.1 a' (x 201 (Or.inl rfl)) (x 219 (Or.inr (Or.inl rfl))) (x 220 (Or.inr (Or.inr rfl)))]
        exact h4 S hS
theorem KPF.go (h : KPF z d d') (hG : GO d z R) (hlt : ∀ b, inO R b → b < 60) : GO d' z R := fun b hb a ha => by
  have := hlt b hb
  rw [h.2.1 (z + (141 + b)) (by omega) (by omega) (by omega)]
  exact hG b hb a ha
theorem k_addPair (hK : KS sh z) (h10 : d.1 (z + 201) 10 = nI n) (hn : n < 30) (hP : PG d (z + 219) (z + 220) P n) (hp : P n = (p, q)) : Rn (f_X4_addPair N sh (z + 201) (nI p) (nI q) d) (fun d' => KPF z d d' ∧ d'.1 (z + 201) 10 = nI (n + 1) ∧ PG d' (z + 219) (z + 220) P (n + 1) ∧ d'.1 (z + 201) 11 = d.1 (z + 201) 11) := by
  unfold f_X4_addPair f_X4_addPair_39
  refine rn_t (ks_o hK 201 4 rfl) ?_
  refine r_gI hK (i := 201) (c := 4) rfl ?_
  rw [h10]
  refine rn_f (nI_ge (b := 30) hn (by decide)) ?_
  refine r_gP hK 201 4 8 219 rfl (by decide) ?_
  refine r_gI hK (i := 201) (c := 4) rfl ?_
  rw [h10]
  refine rn_eq (q_sI (ks_a hK 219 0 30 rfl) n rfl hn (by decide)) ?_
  refine r_gP hK 201 4 9 220 rfl (by decide) ?_
  refine r_gI hK (i := 201) (c := 4) rfl ?_
  rw [wI_n (by omega), h10]
  refine rn_eq (q_sI (ks_a hK 220 0 30 rfl) n rfl hn (by decide)) ?_
  refine r_gI hK (i := 201) (c := 4) rfl ?_
  rw [wI_n (by omega), wI_n (by omega), h10, nI_1]
  refine r_pI hK (i := 201) (c := 4) rfl ?_
  refine rn_some ⟨(KPF.w1.tr KPF.w2).tr (KPF.w (Or.inl rfl)), by rw [wI_s, va_up_s], fun k hk => ?_, by rw [wI_s, va_up_n (by decide), wI_n (by omega), wI_n (by omega)]⟩
  rw [wI_n (by omega), wI_n (by omega), wI_s, wI_n (by omega), wI_s, wI_n (by omega)]
  by_cases e : k = n
  · rw [e, va_up_s, va_up_s, hp]
    exact ⟨rfl, rfl⟩
  · rw [va_up_n e, va_up_n e]
    exact hP k (by omega)
/-- what pairing reads -/
def TKK (sh : Sh) (d : Dt) (z : Nat) (R : Nat → Int32) (a : Nat) : Prop := d.1 (z + 201) 3 = nI (oddl R).length ∧ OL d (z + 202) (oddl R) ∧ (∀ c, c < 14 → d.2.2.2 (z + 203) c = some (z + (204 + c))) ∧ (∀ i j, i < j → j < (oddl R).length → d.1 (z + (204 + i)) j = nI (min (gO R i j) 1000000000)) ∧ d.2.2.2 (z + 201) 6 = some a ∧ (isA sh a 0 ∧ 2 ^ (oddl R).length ≤ sh.2.2.1 a ∧ sh.2.2.1 a ≤ 16384) ∧ (∀ S, S < 2 ^ (oddl R).length → d.1 a S = nI (min (LSx R S) 1000000000)) ∧ a ≠ z + 201 ∧ a ≠ z + 219 ∧ a ≠ z + 220
theorem KPF.tk (h : KPF z d d') (hm : (oddl R).length ≤ 14) (hT : TKK sh d z R a) : TKK sh d' z R a := by
  obtain ⟨h1, h2, h3, h4, h5, h6, h7, h8, h9, h10⟩ := hT
  refine ⟨by rw [h.2.2 3 (by decide) (by decide)]; exact h1, ?_, by rw [h.1]; exact h3, fun i j hij hj => ?_, by rw [h.1]; exact h5, h6, fun S hS => ?_, h8, h9, h10⟩
  · unfold OL
    rw [h.2.1 (z + 202) (by omega) (by omega) (by omega)]
    exact h2
  · rw [h.2.1 (z + (204 + i)) (by omega) (by omega) (by omega)]
    exact h4 i j hij hj
  · rw [h.2.1 a h8 h9 h10]
    exact h7 S hS
theorem rm2_rest (h : lowB S < j) : (S ^^^ 2 ^ lowB S) ^^^ 2 ^ j = rm2 S (lowB S) j := rfl
theorem fp_in (hK : KS sh z) (hT : TKK sh d z R a) (hm : (oddl R).length ≤ 14) (hS : S < 2 ^ (oddl R).length) (h0 : S ≠ 0) (hfin : LSx R S ≤ 8400000) (hJ : ∃ j, fpS R S j) : ∀ (p j fu : Nat), j + p = fpJ R S → p < fu → lowB S < j → f_X4_firstPartner_17 N sh d fu (z + 201) (nI S) (nI (lowB S)) (nI (S ^^^ 2 ^ lowB S)) (nI j) = some (nI (fpJ R S))
  | p, j, 0, hj, hf, hlj => absurd hf (Nat.not_lt_zero p)
  | p, j, fu + 1, hj, hf, hlj => by
    refine rn_val ?_
    show Rn (g_X4_firstPartner_17 N sh (f_X4_firstPartner_17 N sh d fu) (z + 201) (nI S) (nI (lowB S)) (nI (S ^^^ 2 ^ lowB S)) (nI j) d) _
    have hS14 : S < 2 ^ 14 := Nat.lt_of_lt_of_le hS (Nat.pow_le_pow_right (by decide) hm)
    obtain ⟨t1, t2, t3, t4, t5, t6, t7, -⟩ := id hT
    obtain ⟨f1, f2⟩ := fpJ_ok hJ
    have hfm := (in_of_lt hS _ f1.1).2
    have hrest := rest_lt hS14 h0
    have hbit := sb_bit (S := S ^^^ 2 ^ lowB S) (j := j) (by omega) (by omega)
    rw [rest_bit hlj] at hbit
    have next : 0 < p → Rn (f_X4_firstPartner_69 N sh (f_X4_firstPartner_17 N sh d fu) (z + 201) (nI S) (nI (lowB S)) (nI (S ^^^ 2 ^ lowB S)) (nI j) d) (fun r => r = nI (fpJ R S)) := fun hp => by
      unfold f_X4_firstPartner_69
      rw [nI_1, fp_in hK hT hm hS h0 hfin hJ (p - 1) (j + 1) fu (by omega) (by omega) (by omega)]
      exact ⟨_, rfl, rfl⟩
    have hjm : j < (oddl R).length := by omega
    unfold g_X4_firstPartner_17 f_X4_firstPartner_66
    refine r_gI hK (i := 201) (c := 4) rfl ?_
    rw [t1]
    refine rn_f (nI_ge hjm (by omega)) ?_
    refine rn_ite (fun q => ?_) (fun q => ?_)
    · refine next ?_
      rcases Nat.eq_zero_or_pos p with e | e
      · have ej : j = fpJ R S := by omega
        rw [ej] at hbit q
        exact absurd (hbit.1.mpr f1.1) q
      · exact e
    · have q : S.testBit j = true := hbit.1.mp (Decidable.of_not_not q)
      refine r_gP hK 201 4 5 203 rfl (by decide) ?_
      have hlo : lowB S < (oddl R).length := by omega
      refine rn_eq (q_aQ (ks_a hK 203 5 14 rfl) (lowB S) (z + (204 + lowB S)) rfl (by omega) (by decide) (t3 _ (by omega))) ?_
      refine rn_eq (q_aT (ks_a hK (204 + lowB S) 0 14 (ck_gps (by omega))) j rfl (by omega) (by decide)) ?_
      rw [t4 _ _ hlj hjm]
      have hrl := rm2_lt q h0 hlj
      refine r_gQ hK a t5 (i := 201) (c := 4) rfl ?_
      have ex : nI (S ^^^ 2 ^ lowB S) ^^^ ((1 : Int32) <<< (nI j &&& 31)) = nI (rm2 S (lowB S) j) := by
        rw [sb_pow (show j < 31 by omega), sb_xor]
        rfl
      rw [ex]
      refine rn_eq (q_aT ⟨t6.1, rfl⟩ (rm2 S (lowB S) j) rfl (by omega) (by omega)) ?_
      refine r_gQ hK a t5 (i := 201) (c := 4) rfl ?_
      refine rn_eq (q_aT ⟨t6.1, rfl⟩ S rfl (by omega) (by omega)) ?_
      rw [t7 _ (by omega), t7 _ hS, nI_add]
      have eqv : (nI (min (gO R (lowB S) j) 1000000000 + min (LSx R (rm2 S (lowB S) j)) 1000000000) = nI (min (LSx R S) 1000000000)) ↔ fpS R S j := by
        rw [nI_eq (by omega) (by omega)]
        unfold fpS
        constructor
        · intro r
          exact ⟨q, hlj, by omega⟩
        · intro r
          omega
      refine rn_ite (fun r => ?_) (fun r => ?_)
      · refine next ?_
        rcases Nat.eq_zero_or_pos p with e | e
        · have ej : j = fpJ R S := by omega
          rw [ej] at eqv r
          exact absurd (eqv.mpr f1) r
        · exact e
      · have := f2 j (eqv.mp (Decidable.of_not_not r))
        have ej : j = fpJ R S := by omega
        rw [ej]
        exact rn_some rfl
theorem k_firstPartner (hN1 : 100 ≤ N) (hK : KS sh z) (hT : TKK sh d z R a) (hm : (oddl R).length ≤ 14) (hS : S < 2 ^ (oddl R).length) (h0 : S ≠ 0) (hfin : LSx R S ≤ 8400000) (hJ : ∃ j, fpS R S j) : f_X4_firstPartner N sh (z + 201) (nI S) d = some (nI (fpJ R S)) := by
  have hS14 : S < 2 ^ 14 := Nat.lt_of_lt_of_le hS (Nat.pow_le_pow_right (by decide) hm)
  obtain ⟨f1, f2⟩ := fpJ_ok hJ
  have hfm := (in_of_lt hS _ f1.1).2
  refine rn_val ?_
  unfold f_X4_firstPartner
  refine rn_t (ks_o hK 201 4 rfl) ?_
  refine rn_eq (k_low hS14 h0) ?_
  rw [sb_rest hS14 h0, nI_1, fp_in hK hT hm hS h0 hfin hJ (fpJ R S - (lowB S + 1)) (lowB S + 1) N (by have := f1.2.1; omega) (by omega) (by omega)]
  exact ⟨_, rfl, rfl⟩
theorem pe_loop (hN1 : 100 ≤ N) (hK : KS sh z) (hm : (oddl R).length ≤ 14) (hG : GF R) : ∀ (k i fu S : Nat) (d : Dt) (l : List (Nat × Nat)), i + k = 7 → k < fu → S < 2 ^ (oddl R).length → pcN S (oddl R).length % 2 = 0 → pcN S (oddl R).length ≤ 2 * k → l.length ≤ i → TKK sh d z R a → d.1 (z + 201) 10 = nI l.length → PG d (z + 219) (z + 220) (fun x => (l ++ prX R k S).getD x (0, 0)) l.length → Rn (f_X4_pairExactly_11 N sh fu (z + 201) (nI S) (nI i) d) (fun d' => KPF z d d' ∧ d'.1 (z + 201) 10 = nI (l ++ prX R k S).length ∧ PG d' (z + 219) (z + 220) (fun x => (l ++ prX R k S).getD x (0, 0)) (l ++ prX R k S).length)
  | k, i, 0, S, d, l, hi, hf, hS, he, hp, hl, hT, h10, hP => absurd hf (Nat.not_lt_zero k)
  | k, i, fu + 1, S, d, l, hi, hf, hS, he, hp, hl, hT, h10, hP => by
    show Rn (g_X4_pairExactly_11 N sh (f_X4_pairExactly_11 N sh fu) (z + 201) (nI S) (nI i) d) _
    have hS14 : S < 2 ^ 14 := Nat.lt_of_lt_of_le hS (Nat.pow_le_pow_right (by decide) hm)
    unfold g_X4_pairExactly_11 f_X4_pairExactly_69
    refine rn_f (nI_ge (b := 14) (by omega) (by decide)) ?_
    by_cases h0 : S = 0
    · refine rn_t (by rw [h0]; rfl) ?_
      have e : prX R k S = [] := by
        cases k with
        | zero => rfl
        | succ k =>
          show (if S = 0 then [] else _) = []
          rw [if_pos h0]
      rw [e, List.append_nil] at hP ⊢
      exact rn_some ⟨KPF.rf, h10, hP⟩
    · refine rn_f (nI_ne0 (by omega) (by omega)) ?_
      obtain ⟨a1, a2⟩ := lowB_ok h0
      have hlm := (in_of_lt hS _ a1).2
      have hfin := LS_fin hG hm hS he
      have hex := fp_ex hG hm hS he h0
      obtain ⟨f1, f2⟩ := fpJ_ok hex
      have hfm := (in_of_lt hS _ f1.1).2
      have pcr := pc_rm a1 f1.1 (by have := f1.2.1; omega) (oddl R).length
      rw [if_pos hlm, if_pos hfm] at pcr
      have hrl := rm2_lt f1.1 h0 f1.2.1
      obtain ⟨k, rfl⟩ : ∃ k', k = k' + 1 := ⟨k - 1, by omega⟩
      have epr : prX R (k + 1) S = (oC R (lowB S), oC R (fpJ R S)) :: prX R k (rm2 S (lowB S) (fpJ R S)) := by
        show (if S = 0 then [] else _) = _
        rw [if_neg h0]
      refine rn_eq (k_firstPartner hN1 hK hT hm hS h0 hfin hex) ?_
      refine rn_t (nI_m1 (by omega)) ?_
      refine r_gP hK 201 4 2 202 rfl (by decide) ?_
      refine rn_eq (k_low hS14 h0) ?_
      refine rn_eq (q_aT (ks_a hK 202 0 60 rfl) (lowB S) rfl (by omega) (by decide)) ?_
      refine r_gP hK 201 4 2 202 rfl (by decide) ?_
      refine rn_eq (q_aT (ks_a hK 202 0 60 rfl) (fpJ R S) rfl (by omega) (by decide)) ?_
      rw [hT.2.1 _ hlm, hT.2.1 _ hfm]
      rw [epr] at hP ⊢
      refine rn_bind (k_addPair (p := oC R (lowB S)) (q := oC R (fpJ R S)) hK h10 (by omega) hP ?_) (fun d2 h2 => ?_)
      · show (l ++ (oC R (lowB S), oC R (fpJ R S)) :: prX R k (rm2 S (lowB S) (fpJ R S))).getD l.length (0, 0) = _
        simp [List.getD]
      · obtain ⟨g1, g2, g3, -⟩ := h2
        have exx : (nI S &&& (nI S - 1)) ^^^ ((1 : Int32) <<< (nI (fpJ R S) &&& 31)) = nI (rm2 S (lowB S) (fpJ R S)) := by
          rw [sb_rest hS14 h0, sb_pow (show fpJ R S < 31 by omega), sb_xor]
          rfl
        rw [exx, nI_1]
        have ea : l ++ (oC R (lowB S), oC R (fpJ R S)) :: prX R k (rm2 S (lowB S) (fpJ R S)) = (l ++ [(oC R (lowB S), oC R (fpJ R S))]) ++ prX R k (rm2 S (lowB S) (fpJ R S)) := by simp
        have el : (l ++ [(oC R (lowB S), oC R (fpJ R S))]).length = l.length + 1 := by simp
        rw [ea] at g3 ⊢
        refine rn_mono (pe_loop hN1 hK hm hG k (i + 1) fu _ d2 (l ++ [(oC R (lowB S), oC R (fpJ R S))]) (by omega) (by omega) (by omega) (by omega) (by omega) (by omega) (g1.tk hm hT) (by rw [el]; exact g2) (by rw [el]; exact g3)) (fun d3 h3 => ⟨g1.tr h3.1, h3.2⟩)
theorem k_pairExactly (hN1 : 100 ≤ N) (hK : KS sh z) (hN : WN R) (hW : WS R) (hm : (oddl R).length ≤ 14) (hG : GF R) (hT : TKK sh d z R a) (h10 : d.1 (z + 201) 10 = 0) : Rn (f_X4_pairExactly N sh (z + 201) d) (fun d' => KPF z d d' ∧ d'.1 (z + 201) 10 = nI (pairsL R).length ∧ PA d' (z + 219) (z + 220) (pairsL R)) := by
  have hp := Nat.two_pow_pos (oddl R).length
  unfold f_X4_pairExactly
  refine rn_t (ks_o hK 201 4 rfl) ?_
  refine r_gI hK (i := 201) (c := 4) rfl ?_
  have e1 : ((1 : Int32) <<< (d.1 (z + 201) 3 &&& 31)) - 1 = nI (2 ^ (oddl R).length - 1) := by
    rw [hT.1, sb_pow (by omega), show nI (2 ^ (oddl R).length) = nI ((2 ^ (oddl R).length - 1) + 1) from congrArg nI (by omega), nI_pred]
  rw [e1]
  have e : pairsL R = [] ++ prX R 7 (2 ^ (oddl R).length - 1) := if_pos hm
  rw [e]
  refine rn_mono (pe_loop hN1 hK hm hG 7 0 N (2 ^ (oddl R).length - 1) d [] rfl (by omega) (by omega) (by rw [pc_full _ (Nat.le_refl _)]; exact oddl_even hW hN) (by rw [pc_full _ (Nat.le_refl _)]; exact hm) (by decide) hT h10 (fun k hk => absurd hk (Nat.not_lt_zero k))) (fun d2 h2 => ⟨h2.1, h2.2.1, h2.2.2⟩)
end KPR
/-! 9zb.kexch.lean.txt -/
/-! PAIRS in order, and their EXCHANGES, of the class -/
section KEX
variable {s s' : AS} {sh : Sh} {d d0 d' : Dt} {z : Nat} {ow ow' : Nat → Nat} {R K : Nat → Int32} {u : Bool} {y : YL} {N n m k i j c p q x e v a b S cc : Nat} {P : Nat → Nat × Nat}
theorem edge_sy (hB : BW R) (h : edge R i a b) : edge R i b a := by
  obtain ⟨h1, h2, h3⟩ := h
  have h5 := hB i h1 h2
  rcases h3 with ⟨q1, q2⟩ | ⟨-, q1, q2⟩
  · exact ⟨h1, h2, Or.inr ⟨h5, q2, q1⟩⟩
  · exact ⟨h1, h2, Or.inl ⟨q2, q1⟩⟩
theorem wk_snoc (hx : edge R i b c) (hc : c < nn R 0) : ∀ (l : List Nat) (a : Nat), wk R l a b → wk R (l ++ [i]) a c ∧ wln R (l ++ [i]) = wln R l + sln R i
  | [], a, h => by
    have h : a = b := h
    subst h
    exact ⟨⟨c, hc, hx, rfl⟩, by show sln R i + 0 = 0 + sln R i; omega⟩
  | t :: l, a, h => by
    obtain ⟨w, h1, h2, h3⟩ := h
    obtain ⟨g1, g2⟩ := wk_snoc hx hc l w h3
    exact ⟨⟨w, h1, h2, g1⟩, by show sln R t + wln R (l ++ [i]) = sln R t + wln R l + sln R i; omega⟩
theorem wk_sy (hB : BW R) : ∀ (l : List Nat) (a b : Nat), a < nn R 0 → wk R l a b → ∃ l', wk R l' b a ∧ wln R l' = wln R l
  | [], a, b, _, h => ⟨[], (show a = b from h).symm, rfl⟩
  | t :: l, a, b, ha, h => by
    obtain ⟨w, h1, h2, h3⟩ := h
    obtain ⟨l', g1, g2⟩ := wk_sy hB l w b h1 h3
    obtain ⟨e1, e2⟩ := wk_snoc (edge_sy hB h2) ha l' b g1
    exact ⟨l' ++ [t], e1, by rw [e2, g2]; show wln R l + sln R t = sln R t + wln R l; omega⟩
theorem dst_sy (hB : BW R) (ha : a < nn R 0) (hb : b < nn R 0) (h : dst R a b n) : dst R b a n := by
  obtain ⟨⟨l, h1, h2⟩, h3⟩ := h
  obtain ⟨l', g1, g2⟩ := wk_sy hB l a b ha h1
  refine ⟨⟨l', g1, g2.trans h2⟩, fun p hp => ?_⟩
  obtain ⟨p', k1, k2⟩ := wk_sy hB p b a hb hp
  rw [← k2]
  exact h3 p' k1
theorem dd_sy (hB : BW R) (ha : a < nn R 0) (hb : b < nn R 0) : dd R a b = dd R b a := by
  by_cases h : ∃ n, dst R a b n
  · obtain ⟨n, h⟩ := h
    rw [dd_eq h, dd_eq (dst_sy hB ha hb h)]
  · rw [dd_no (fun p hp => h (wk_dst hp)), dd_no (fun p hp => h (by
      obtain ⟨n, hn⟩ := wk_dst hp
      exact ⟨n, dst_sy hB hb ha hn⟩))]
theorem dm_dd (hB : BW R) (ha : a < nn R 0) (hb : b < nn R 0) : dm R a b = dd R a b := by
  unfold dm
  rcases Nat.le_total a b with h | h
  · rw [Nat.min_eq_left h, Nat.max_eq_right h]
  · rw [Nat.min_eq_right h, Nat.max_eq_left h]
    exact dd_sy hB hb ha
theorem k_btw (hK : KS sh z) (hN : WN R) (hW : WS R) (hB : BW R) (hG : GF R) (hS : SPN d z) (hO : GO d z R) (hx : inO R p) (hy : inO R q) : f_X10_between N sh (z + 77) (nI p) (nI q) d = some (nI (dm R p q)) := by
  have n0 := hN.1.2
  have l1 := inO_lt hW hN hx
  have l2 := inO_lt hW hN hy
  rw [k_between hK hS (by omega) (by omega), cap_c (hO q hy p (by omega)), ← dm_dd hB l1 l2, Nat.min_eq_left (by have := dm_le hG hx hy; omega)]
theorem k_stand (hK : KS sh z) (hi : i < 30) (hp : p < 60) (hq : q < 60) : f_X4_stand N sh (z + 201) (nI i) (nI p) (nI q) d = some (wI (wI d (z + 219) i (nI (min p q))) (z + 220) i (nI (max p q))) := by
  refine rn_val ?_
  unfold f_X4_stand
  refine rn_t (ks_o hK 201 4 rfl) ?_
  refine r_gP hK 201 4 8 219 rfl (by decide) ?_
  refine rn_eq (q_sI (ks_a hK 219 0 30 rfl) i rfl hi (by decide)) ?_
  refine r_gP hK 201 4 9 220 rfl (by decide) ?_
  refine rn_eq (q_sI (ks_a hK 220 0 30 rfl) i rfl hi (by decide)) ?_
  rw [o_min_nI (by omega) (by omega), o_max_nI (by omega) (by omega)]
  exact rn_some rfl
/-- what the class's exchanges read -/
def XKK (d : Dt) (z : Nat) (R : Nat → Int32) (P : Nat → Nat × Nat) (n : Nat) : Prop := SPN d z ∧ GO d z R ∧ d.1 (z + 201) 10 = nI n ∧ PG d (z + 219) (z + 220) P n
def EXK (z : Nat) (R : Nat → Int32) (n : Nat) (P : Nat → Nat × Nat) (d0 : Dt) (r : Int32 × Dt) : Prop := KPF z d0 r.2 ∧ r.2.1 (z + 201) = d0.1 (z + 201) ∧ ((r.1 = 0 ∧ (¬ ∃ i j, exS R n P i j) ∧ XKK r.2 z R P n) ∨ (r.1 = 1 ∧ (∃ i j, exS R n P i j) ∧ XKK r.2 z R (exP R P (feI R n P).1 (feI R n P).2) n))
theorem k_exchange (hK : KS sh z) (hN : WN R) (hW : WS R) (hB : BW R) (hG : GF R) (hn : n ≤ 30) (hX : XKK d z R P n) (hO : PO R P n) (hi : i < n) (hj : j < n) : Rn (f_X4_exchange N sh (z + 201) (nI i) (nI j) d) (fun r => (exC R P i j = 0 ∧ r.1 = 0 ∧ r.2 = d) ∨ (exC R P i j ≠ 0 ∧ r.1 = 1 ∧ KPF z d r.2 ∧ r.2.1 (z + 201) = d.1 (z + 201) ∧ PG r.2 (z + 219) (z + 220) (exP R P i j) n)) := by
  have n0 := hN.1.2
  obtain ⟨hS, hGO, h10, hP⟩ := hX
  have h5 := ks_a hK 219 0 30 rfl
  have h6 := ks_a hK 220 0 30 rfl
  obtain ⟨pi1, pi2⟩ := hP i hi
  obtain ⟨pj1, pj2⟩ := hP j hj
  obtain ⟨oi1, oi2⟩ := hO i hi
  obtain ⟨oj1, oj2⟩ := hO j hj
  have lt1 := inO_lt hW hN oi1
  have lt2 := inO_lt hW hN oi2
  have lt3 := inO_lt hW hN oj1
  have lt4 := inO_lt hW hN oj2
  have b1 := dm_le hG oi1 oi2
  have b2 := dm_le hG oj1 oj2
  have b3 := dm_le hG oi1 oj1
  have b4 := dm_le hG oi2 oj2
  have b5 := dm_le hG oi1 oj2
  have b6 := dm_le hG oi2 oj1
  have bt : ∀ {p q}, inO R p → inO R q → f_X10_between N sh (z + 77) (nI p) (nI q) d = some (nI (dm R p q)) := fun h1 h2 => k_btw hK hN hW hB hG hS hGO h1 h2
  unfold f_X4_exchange
  refine rn_t (ks_o hK 201 4 rfl) ?_
  refine r_gP hK 201 4 8 219 rfl (by decide) ?_
  refine rn_eq (q_aT h5 i rfl (by omega) (by decide)) ?_
  refine r_gP hK 201 4 9 220 rfl (by decide) ?_
  refine rn_eq (q_aT h6 i rfl (by omega) (by decide)) ?_
  refine r_gP hK 201 4 8 219 rfl (by decide) ?_
  refine rn_eq (q_aT h5 j rfl (by omega) (by decide)) ?_
  refine r_gP hK 201 4 9 220 rfl (by decide) ?_
  refine rn_eq (q_aT h6 j rfl (by omega) (by decide)) ?_
  rw [pi1, pi2, pj1, pj2]
  refine r_gP hK 201 4 1 77 rfl (by decide) ?_
  refine rn_eq (bt oi1 oi2) ?_
  refine r_gP hK 201 4 1 77 rfl (by decide) ?_
  refine rn_eq (bt oj1 oj2) ?_
  refine r_gP hK 201 4 1 77 rfl (by decide) ?_
  refine rn_eq (bt oi1 oj1) ?_
  refine r_gP hK 201 4 1 77 rfl (by decide) ?_
  refine rn_eq (bt oi2 oj2) ?_
  rw [nI_add, nI_add]
  have done : ∀ (u1 u2 : Nat × Nat), exC R P i j ≠ 0 → exP R P i j = va_up (va_up P i u1) j u2 → (exC R P i j = 0 ∧ (1 : Int32) = 0 ∧ wI (wI (wI (wI d (z + 219) i (nI u1.1)) (z + 220) i (nI u1.2)) (z + 219) j (nI u2.1)) (z + 220) j (nI u2.2) = d) ∨ (exC R P i j ≠ 0 ∧ (1 : Int32) = 1 ∧ KPF z d (wI (wI (wI (wI d (z + 219) i (nI u1.1)) (z + 220) i (nI u1.2)) (z + 219) j (nI u2.1)) (z + 220) j (nI u2.2)) ∧ (wI (wI (wI (wI d (z + 219) i (nI u1.1)) (z + 220) i (nI u1.2)) (z + 219) j (nI u2.1)) (z + 220) j (nI u2.2)).1 (z + 201) = d.1 (z + 201) ∧ PG (wI (wI (wI (wI d (z + 219) i (nI u1.1)) (z + 220) i (nI u1.2)) (z + 219) j (nI u2.1)) (z + 220) j (nI u2.2)) (z + 219) (z + 220) (exP R P i j) n) := fun u1 u2 hc he => by
    refine Or.inr ⟨hc, rfl, ((KPF.w1.tr KPF.w2).tr KPF.w1).tr KPF.w2, ?_, ?_⟩
    · rw [wI_n (by omega), wI_n (by omega), wI_n (by omega), wI_n (by omega)]
    · rw [he]
      exact pg_up (pg_up hP (by omega)) (by omega)
  refine rn_ite (fun q1 => ?_) (fun q1 => ?_)
  · have q1 := (nI_leI (by omega) (by omega)).mp q1
    refine r_gP hK 201 4 1 77 rfl (by decide) ?_
    refine rn_eq (bt oi1 oj2) ?_
    refine r_gP hK 201 4 1 77 rfl (by decide) ?_
    refine rn_eq (bt oi2 oj1) ?_
    rw [nI_add]
    refine rn_ite (fun q2 => ?_) (fun q2 => ?_)
    · have q2 := (nI_leI (by omega) (by omega)).mp q2
      refine rn_some (Or.inl ⟨?_, rfl, rfl⟩)
      unfold exC
      rw [if_neg (by omega), if_neg (by omega)]
    · have q2 : ¬ dm R (P i).1 (P i).2 + dm R (P j).1 (P j).2 ≤ dm R (P i).1 (P j).2 + dm R (P i).2 (P j).1 := fun r => q2 ((nI_leI (by omega) (by omega)).mpr r)
      have ec : exC R P i j = 2 := by
        unfold exC
        rw [if_neg (by omega), if_pos (by omega)]
      refine rn_eq (k_stand hK (by omega) (by omega) (by omega)) ?_
      refine rn_eq (k_stand hK (by omega) (by omega) (by omega)) ?_
      refine rn_some (done (mm (P i).1 (P j).2) (mm (P i).2 (P j).1) (by rw [ec]; decide) ?_)
      unfold exP
      rw [ec, if_neg (by decide)]
  · have q1 : ¬ dm R (P i).1 (P i).2 + dm R (P j).1 (P j).2 ≤ dm R (P i).1 (P j).1 + dm R (P i).2 (P j).2 := fun r => q1 ((nI_leI (by omega) (by omega)).mpr r)
    have ec : exC R P i j = 1 := by
      unfold exC
      rw [if_pos (by omega)]
    refine rn_eq (k_stand hK (by omega) (by omega) (by omega)) ?_
    refine rn_eq (k_stand hK (by omega) (by omega) (by omega)) ?_
    refine rn_some (done (mm (P i).1 (P j).1) (mm (P i).2 (P j).2) (by rw [ec]; decide) ?_)
    unfold exP
    rw [ec, if_pos rfl]
theorem KPF.spn (h : KPF z d d') (hS : SPN d z) : SPN d' z := by
  unfold SPN
  rw [h.1]
  exact hS
theorem kj_loop {k2 : Nat → Int32 → Dt → Option (Int32 × Dt)} (hK : KS sh z) (hN : WN R) (hW : WS R) (hB : BW R) (hG : GF R) (hn : n ≤ 30) (hX : XKK d z R P n) (hO : PO R P n) (hi : i < n) (hI : ∀ i' j', i' < i → ¬ exS R n P i' j') (hk : (∀ j', ¬ exS R n P i j') → Rn (k2 (z + 201) (nI (i + 1)) d) (EXK z R n P d)) : ∀ (m j fu : Nat), j + m = n → m < fu → i < j → (∀ j', j' < j → ¬ exS R n P i j') → Rn (f_X4_exchangeFirst_14 N sh k2 fu (z + 201) (nI i) (nI j) d) (EXK z R n P d)
  | 0, j, fu, hj, hf, hij, hl => by
    obtain ⟨fu, rfl⟩ : ∃ q, fu = q + 1 := ⟨fu - 1, by omega⟩
    show Rn (g_X4_exchangeFirst_14 N sh k2 (f_X4_exchangeFirst_14 N sh k2 fu) (z + 201) (nI i) (nI j) d) _
    unfold g_X4_exchangeFirst_14 f_X4_exchangeFirst_39
    refine r_gI hK (i := 201) (c := 4) rfl ?_
    rw [hX.2.2.1, nI_1]
    refine rn_t ((nI_leI (by omega) (by omega)).mpr (by omega)) ?_
    exact hk (fun j' h => hl j' (by have := h.2.1; omega) h)
  | m + 1, j, fu, hj, hf, hij, hl => by
    obtain ⟨fu, rfl⟩ : ∃ q, fu = q + 1 := ⟨fu - 1, by omega⟩
    have hjn : j < n := by omega
    show Rn (g_X4_exchangeFirst_14 N sh k2 (f_X4_exchangeFirst_14 N sh k2 fu) (z + 201) (nI i) (nI j) d) _
    unfold g_X4_exchangeFirst_14 f_X4_exchangeFirst_31
    refine r_gI hK (i := 201) (c := 4) rfl ?_
    rw [hX.2.2.1]
    refine rn_f (nI_ge hjn (by omega)) ?_
    refine rn_bind (k_exchange hK hN hW hB hG hn hX hO hi hjn) (fun r hr => ?_)
    obtain ⟨r1, r2⟩ := r
    rcases hr with ⟨h1, h2, h3⟩ | ⟨h1, h2, h3, h4, h5⟩
    · have h3 : r2 = d := h3
      refine rn_t h2 ?_
      rw [nI_1]
      show Rn (f_X4_exchangeFirst_14 N sh k2 fu (z + 201) (nI i) (nI (j + 1)) r2) _
      rw [h3]
      refine kj_loop hK hN hW hB hG hn hX hO hi hI hk m (j + 1) fu (by omega) (by omega) (by omega) (fun j' hj' h => ?_)
      by_cases e : j' = j
      · subst e
        exact h.2.2 h1
      · exact hl j' (by omega) h
    · have hfe : feI R n P = (i, j) := feI_eq ⟨hij, hjn, h1⟩ (fun i' j' h' => by
        rcases Nat.lt_trichotomy i' i with q | q | q
        · exact absurd h' (hI i' j' q)
        · subst q
          rcases Nat.lt_or_ge j' j with q2 | q2
          · exact absurd h' (hl j' q2)
          · exact Or.inr ⟨rfl, q2⟩
        · exact Or.inl q)
      have h2 : r1 = 1 := h2
      subst h2
      refine rn_f (show ¬ (1 : Int32) = 0 by decide) ?_
      have hlt : ∀ b, inO R b → b < 60 := fun b hb => by
        have := inO_lt hW hN hb
        have := hN.1.2
        omega
      refine rn_some ⟨h3, h4, Or.inr ⟨rfl, ⟨i, j, hij, hjn, h1⟩, h3.spn hX.1, h3.go hX.2.1 hlt, ?_, ?_⟩⟩
      · show r2.1 (z + 201) 10 = nI n
        rw [show r2.1 (z + 201) = d.1 (z + 201) from h4]
        exact hX.2.2.1
      · rw [hfe]
        exact h5
theorem ki_loop (hN1 : 200 ≤ N) (hK : KS sh z) (hN : WN R) (hW : WS R) (hB : BW R) (hG : GF R) (hn : n ≤ 30) (hX : XKK d z R P n) (hO : PO R P n) : ∀ (m i fu : Nat), i + m = n → m < fu → (∀ i' j', i' < i → ¬ exS R n P i' j') → Rn (f_X4_exchangeFirst_2 N sh fu (z + 201) (nI i) d) (EXK z R n P d)
  | 0, i, fu, hi, hf, hl => by
    obtain ⟨fu, rfl⟩ : ∃ q, fu = q + 1 := ⟨fu - 1, by omega⟩
    show Rn (g_X4_exchangeFirst_2 N sh (f_X4_exchangeFirst_2 N sh fu) (z + 201) (nI i) d) _
    unfold g_X4_exchangeFirst_2 f_X4_exchangeFirst_45
    refine r_gI hK (i := 201) (c := 4) rfl ?_
    rw [hX.2.2.1]
    refine rn_t (nI_le (by omega) (by omega)) ?_
    exact rn_some ⟨KPF.rf, rfl, Or.inl ⟨rfl, fun ⟨i', j', h⟩ => hl i' j' (by have := h.1; have := h.2.1; omega) h, hX⟩⟩
  | m + 1, i, fu, hi, hf, hl => by
    obtain ⟨fu, rfl⟩ : ∃ q, fu = q + 1 := ⟨fu - 1, by omega⟩
    show Rn (g_X4_exchangeFirst_2 N sh (f_X4_exchangeFirst_2 N sh fu) (z + 201) (nI i) d) _
    unfold g_X4_exchangeFirst_2
    refine r_gI hK (i := 201) (c := 4) rfl ?_
    rw [hX.2.2.1]
    refine rn_f (nI_ge (by omega) (by omega)) ?_
    rw [nI_1]
    exact kj_loop hK hN hW hB hG hn hX hO (by omega) hl (fun hno => ki_loop hN1 hK hN hW hB hG hn hX hO m (i + 1) fu (by omega) (by omega) (fun i' j' hi' => by
      by_cases e : i' = i
      · rw [e]
        exact hno j'
      · exact hl i' j' (by omega))) (n - (i + 1)) (i + 1) N (by omega) (by omega) (by omega) (fun j' hj' h => by have := h.1; omega)
theorem ka_loop (hN1 : 2000 ≤ N) (hK : KS sh z) (hN : WN R) (hW : WS R) (hB : BW R) (hG : GF R) (hn : n ≤ 30) : ∀ (m k fu : Nat) (d : Dt) (P : Nat → Nat × Nat), k + m = 1000 → m < fu → KPF z d0 d → d.1 (z + 201) 11 = nI k → XKK d z R P n → PO R P n → Rn (f_X4_exchangeAll_0 N sh fu (z + 201) d) (fun d' => KPF z d0 d' ∧ XKK d' z R (exN R n m P) n)
  | 0, k, fu, d, P, hk, hf, hM, h11, hX, hO => by
    obtain ⟨fu, rfl⟩ : ∃ q, fu = q + 1 := ⟨fu - 1, by omega⟩
    show Rn (g_X4_exchangeAll_0 N sh (f_X4_exchangeAll_0 N sh fu) (z + 201) d) _
    unfold g_X4_exchangeAll_0 f_X4_exchangeAll_30
    refine r_gI hK (i := 201) (c := 4) rfl ?_
    rw [h11]
    exact rn_t (nI_le (a := 1000) (by omega) (by omega)) (rn_some ⟨hM, hX⟩)
  | m + 1, k, fu, d, P, hk, hf, hM, h11, hX, hO => by
    obtain ⟨fu, rfl⟩ : ∃ q, fu = q + 1 := ⟨fu - 1, by omega⟩
    show Rn (g_X4_exchangeAll_0 N sh (f_X4_exchangeAll_0 N sh fu) (z + 201) d) _
    unfold g_X4_exchangeAll_0 f_X4_exchangeAll_30
    refine r_gI hK (i := 201) (c := 4) rfl ?_
    rw [h11]
    refine rn_f (nI_ge (b := 1000) (by omega) (by decide)) ?_
    refine rn_bind (P := EXK z R n P d) ?_ (fun r hr => ?_)
    · unfold f_X4_exchangeFirst
      refine rn_t (ks_o hK 201 4 rfl) ?_
      exact ki_loop (by omega) hK hN hW hB hG hn hX hO n 0 N (by omega) (by omega) (fun i' j' h => absurd h (Nat.not_lt_zero i'))
    · obtain ⟨f1, f2, f3⟩ := hr
      rcases f3 with ⟨g1, g2, g3⟩ | ⟨g1, g2, g3⟩
      · have e : exN R n (m + 1) P = P := ite_n g2
        rw [e]
        exact rn_t g1 (rn_some ⟨hM.tr f1, g3⟩)
      · have e : exN R n (m + 1) P = exN R n m (exP R P (feI R n P).1 (feI R n P).2) := ite_p g2
        rw [e]
        refine rn_f (by rw [g1]; decide) ?_
        refine r_gI hK (i := 201) (c := 4) rfl ?_
        rw [f2, h11, nI_1]
        refine r_pI hK (i := 201) (c := 4) rfl ?_
        obtain ⟨x1, x2, x3, x4⟩ := g3
        have kw : KPF z r.2 (wI r.2 (z + 201) 11 (nI (k + 1))) := KPF.w (Or.inr rfl)
        have hlt : ∀ b, inO R b → b < 60 := fun b hb => by
          have := inO_lt hW hN hb
          have := hN.1.2
          omega
        obtain ⟨ei, ej, es⟩ := g2
        have fi := feI_ok ⟨ei, ej, es⟩
        refine ka_loop hN1 hK hN hW hB hG hn m (k + 1) fu _ _ (by omega) (by omega) ((hM.tr f1).tr kw) (by rw [wI_s, va_up_s]) ⟨kw.spn x1, kw.go x2 hlt, by rw [wI_s, va_up_n (by decide)]; exact x3, fun j hj => ?_⟩ (po_ex hO (by have := fi.1.1; have := fi.1.2.1; omega) fi.1.2.1)
        rw [wI_n (by omega), wI_n (by omega)]
        exact x4 j hj
theorem kio_loop (hK : KS sh z) (h3 : d0.1 (z + 201) 3 = nI (oddl R).length) (hO : OL d0 (z + 202) (oddl R)) (he : (oddl R).length = 2 * n) (hn : n ≤ 30) : ∀ (m i fu : Nat) (d : Dt), i + m = n → m < fu → KPF z d0 d → d.1 (z + 201) 10 = nI i → d.1 (z + 201) 11 = d0.1 (z + 201) 11 → PG d (z + 219) (z + 220) (P0 R) i → Rn (f_X4_pairInOrder_2 N sh fu (z + 201) (nI (2 * i)) d) (fun d' => KPF z d0 d' ∧ d'.1 (z + 201) 10 = nI n ∧ d'.1 (z + 201) 11 = d0.1 (z + 201) 11 ∧ PG d' (z + 219) (z + 220) (P0 R) n)
  | 0, i, fu, d, hi, hf, hM, h10, h11, hP => by
    obtain ⟨fu, rfl⟩ : ∃ q, fu = q + 1 := ⟨fu - 1, by omega⟩
    show Rn (g_X4_pairInOrder_2 N sh (f_X4_pairInOrder_2 N sh fu) (z + 201) (nI (2 * i)) d) _
    unfold g_X4_pairInOrder_2 f_X4_pairInOrder_36
    refine r_gI hK (i := 201) (c := 4) rfl ?_
    rw [hM.2.2 3 (by decide) (by decide), h3, nI_1]
    have e : i = n := by omega
    rw [e] at h10 hP ⊢
    exact rn_t (nI_le (by omega) (by omega)) (rn_some ⟨hM, h10, h11, hP⟩)
  | m + 1, i, fu, d, hi, hf, hM, h10, h11, hP => by
    obtain ⟨fu, rfl⟩ : ∃ q, fu = q + 1 := ⟨fu - 1, by omega⟩
    show Rn (g_X4_pairInOrder_2 N sh (f_X4_pairInOrder_2 N sh fu) (z + 201) (nI (2 * i)) d) _
    unfold g_X4_pairInOrder_2
    refine r_gI hK (i := 201) (c := 4) rfl ?_
    rw [hM.2.2 3 (by decide) (by decide), h3, nI_1]
    refine rn_f (nI_ge (by omega) (by omega)) ?_
    have e202 : d.1 (z + 202) = d0.1 (z + 202) := hM.2.1 _ (by omega) (by omega) (by omega)
    refine r_gP hK 201 4 2 202 rfl (by decide) ?_
    refine rn_eq (q_aT (ks_a hK 202 0 60 rfl) (2 * i) rfl (by omega) (by decide)) ?_
    refine r_gP hK 201 4 2 202 rfl (by decide) ?_
    refine rn_eq (q_aT (ks_a hK 202 0 60 rfl) (2 * i + 1) rfl (by omega) (by decide)) ?_
    rw [e202, hO _ (by omega), hO _ (by omega)]
    refine rn_bind (k_addPair (P := P0 R) (p := oC R (2 * i)) (q := oC R (2 * i + 1)) hK h10 (by omega) hP rfl) (fun d2 h2 => ?_)
    obtain ⟨g1, g2, g3, g4⟩ := h2
    have e2 : nI (2 * i) + 2 = nI (2 * (i + 1)) := nI_add (2 * i) 2
    rw [e2]
    exact kio_loop hK h3 hO he hn m (i + 1) fu d2 (by omega) (by omega) (hM.tr g1) g2 (g4.trans h11) g3
/-- what pairUp() leaves -/
def PUQ (s : AS) (z : Nat) (ow : Nat → Nat) (R K : Nat → Int32) (u : Bool) (y : YL) (cc : Nat) (s' : AS) : Prop := ∃ ow' Lt', ES (IX z ow 201 220) s ow s' ow' ∧ CI s' z ow' R K u (y.1, y.2.1, y.2.2.1, Lt', y.2.2.2.2) cc ∧ RFR z s s' ∧ s'.2.1 (z + 201) 10 = nI (pairsL R).length ∧ PA s'.2 (z + 219) (z + 220) (pairsL R)
theorem k_pairUp (hN1 : 20000 ≤ N) (h : CI s z ow R K u y cc) (hR : WF R) (hB : BW R) (hG : GF R) (hO : GO s.2 z R) (hS : SPN s.2 z) : Rn (f_X4_pairUp N (z + 201) s) (PUQ s z ow R K u y cc) := by
  have hK := h.1
  have hw := h.2.1
  have hN := hR.1
  have hW := hR.2.2.1
  have hl := oddl_len hW hN
  have he := oddl_even hW hN
  have hlt : ∀ b, inO R b → b < 60 := fun b hb => by
    have := inO_lt hW hN hb
    have := hN.1.2
    omega
  unfold f_X4_pairUp
  refine rn_t (ks_o hK 201 4 rfl) ?_
  refine rn_bind (k_list (by omega) hK hN hW h.2.2.1.2.1 h.2.2.2.2.2.2.2.2.1) (fun r hr => ?_)
  obtain ⟨l1, -, l4, l3, lO⟩ := hr
  have c1 := ci_pr h (l1.fd hw) (by rw [l1.1]) (Or.inr ⟨l4, l3, lO⟩) (prt_lf h l1) (l1.2.2 7 (by decide) (by decide))
  refine r_pI hK (i := 201) (c := 4) rfl ?_
  refine r_pI hK (i := 201) (c := 4) rfl ?_
  have kw : KPF z r.2 (wI (wI r.2 (z + 201) 10 0) (z + 201) 11 0) := (KPF.w (Or.inl rfl)).tr (KPF.w (Or.inr rfl))
  have c2 := ci_kp (s := (s.1, r.2)) c1.1 kw
  have w3 : (wI (wI r.2 (z + 201) 10 0) (z + 201) 11 0).1 (z + 201) 3 = nI (oddl R).length := by rw [kw.2.2 3 (by decide) (by decide)]; exact l3
  have w4 : (wI (wI r.2 (z + 201) 10 0) (z + 201) 11 0).1 (z + 201) 4 = 1 := by rw [kw.2.2 4 (by decide) (by decide)]; exact l4
  have wO : OL (wI (wI r.2 (z + 201) 10 0) (z + 201) 11 0) (z + 202) (oddl R) := by
    unfold OL
    rw [kw.2.1 (z + 202) (by omega) (by omega) (by omega)]
    exact lO
  have gO : GO (wI (wI r.2 (z + 201) 10 0) (z + 201) 11 0) z R := kw.go (fun b hb a ha => by
    have := hlt b hb
    rw [l1.2.1 (z + (141 + b)) (by omega) (by omega)]
    exact hO b hb a ha) hlt
  have w10 : (wI (wI r.2 (z + 201) 10 0) (z + 201) 11 0).1 (z + 201) 10 = 0 := by rw [wI_s, va_up_n (by decide), wI_s, va_up_s]
  have w11 : (wI (wI r.2 (z + 201) 10 0) (z + 201) 11 0).1 (z + 201) 11 = 0 := by rw [wI_s, va_up_s]
  have fd1 : FD (IX z ow 201 220) s.2 (wI (wI r.2 (z + 201) 10 0) (z + 201) 11 0) := (l1.fd hw).tr (kw.fd hw)
  have es1 : ES (IX z ow 201 220) s ow (s.1, wI (wI r.2 (z + 201) 10 0) (z + 201) 11 0) ow := FD.es (sh := s.1) (d := s.2) fd1
  have f1 : RFR z s (s.1, wI (wI r.2 (z + 201) 10 0) (z + 201) 11 0) := c1.2.tr c2.2
  refine r_gI hK (i := 201) (c := 4) rfl ?_
  rw [w3]
  unfold f_X4_pairUp_28 f_X4_pairUp_43
  by_cases hm : (oddl R).length ≤ 14
  · refine rn_f (fun q => absurd ((nI_ltI (a := 14) (by decide) (by omega)).mp q) (by omega)) ?_
    refine rn_bind (k_fillTable hN1 c2.1 hR w4 w3 wO hm gO) (fun s2 h2 => ?_)
    obtain ⟨ow', Lt', e2, c3, f3, t7, tT, tk, tr⟩ := h2
    have hK2 := c3.1
    have hw2 := c3.2.1
    obtain ⟨⟨-, tg, a, ta, tb⟩, tl⟩ := tT
    obtain ⟨⟨-, -, q3⟩, -, ⟨a', y1, y2, y3, y4, y5, y6⟩, -⟩ := c3.2.2.2.2.1
    have ea : a' = a := by
      rw [ta] at y1
      exact (Option.some.inj y1).symm
    subst ea
    have xx : ∀ i, i = 201 ∨ i = 219 ∨ i = 220 → a' ≠ z + i := fun i hi e => by
      have : ow' (z + i) = 0 := by
        rcases hi with rfl | rfl | rfl
        · exact hw2 201 (by decide) (by decide)
        · exact hw2 219 (by decide) (by decide)
        · exact hw2 220 (by decide) (by decide)
      rw [e, this] at y2
      omega
    have tkk : TKK s2.1 s2.2 z R a' := by
      refine ⟨?_, ?_, q3, tg, ta, ⟨y3, by rw [y4]; exact tl, by rw [y4]; exact y6⟩, tb, xx 201 (Or.inl rfl), xx 219 (Or.inr (Or.inl rfl)), xx 220 (Or.inr (Or.inr rfl))⟩
      · rw [tk 3 (by decide)]
        exact w3
      · unfold OL
        rw [tr 202 (Or.inl rfl)]
        exact wO
    refine rn_bind (k_pairExactly (by omega) hK2 hN hW hm hG tkk (by rw [tk 10 (by decide)]; exact w10)) (fun d3 h3 => rn_some ?_)
    obtain ⟨g1, g2, g3⟩ := h3
    have c4 := ci_kp c3 g1
    have es3 : ES (IX z ow 201 220) s ow (s2.1, d3) ow' := es_fd (es1.tr e2 (fun x _ hx => hx)) (g1.fd hw2)
    exact ⟨ow', Lt', es3, c4.1, (f1.tr f3).tr c4.2, g2, g3⟩
  · refine rn_t (nI_lt (a := 14) (by omega) (by omega)) ?_
    have hS1 : SPN (wI (wI r.2 (z + 201) 10 0) (z + 201) 11 0) z := kw.spn (by
      unfold SPN
      rw [l1.1]
      exact hS)
    refine rn_bind (P := fun d' => KPF z (wI (wI r.2 (z + 201) 10 0) (z + 201) 11 0) d' ∧ d'.1 (z + 201) 10 = nI ((oddl R).length / 2) ∧ d'.1 (z + 201) 11 = (wI (wI r.2 (z + 201) 10 0) (z + 201) 11 0).1 (z + 201) 11 ∧ PG d' (z + 219) (z + 220) (P0 R) ((oddl R).length / 2)) ?_ (fun d5 h5 => ?_)
    · unfold f_X4_pairInOrder
      refine rn_t (ks_o hK 201 4 rfl) ?_
      exact kio_loop (d0 := wI (wI r.2 (z + 201) 10 0) (z + 201) 11 0) hK w3 wO (by omega) (by omega) ((oddl R).length / 2) 0 N _ (by omega) (by omega) KPF.rf w10 rfl (fun k hk => absurd hk (Nat.not_lt_zero k))
    · obtain ⟨g1, g2, g3, g4⟩ := h5
      have po : PO R (P0 R) ((oddl R).length / 2) := fun k hk => ⟨⟨2 * k, by omega, rfl⟩, ⟨2 * k + 1, by omega, rfl⟩⟩
      unfold f_X4_exchangeAll
      refine rn_bind (P := fun d' => KPF z d5 d' ∧ XKK d' z R (exN R ((oddl R).length / 2) 1000 (P0 R)) ((oddl R).length / 2)) ?_ (fun d6 h6 => rn_some ?_)
      · refine rn_t (ks_o hK 201 4 rfl) ?_
        exact ka_loop (d0 := d5) (by omega) hK hN hW hB hG (by omega) 1000 0 N d5 (P0 R) rfl (by omega) KPF.rf (by rw [g3]; exact w11) ⟨g1.spn hS1, g1.go gO hlt, g2, g4⟩ po
      · obtain ⟨k1, -, -, k4, k5⟩ := h6
        have kk := (kw.tr g1).tr k1
        have c4 := ci_kp (s := (s.1, r.2)) c1.1 kk
        have e : pairsL R = (List.range ((oddl R).length / 2)).map (exN R ((oddl R).length / 2) 1000 (P0 R)) := if_neg hm
        have el : (pairsL R).length = (oddl R).length / 2 := by rw [e, List.length_map, List.length_range]
        have fd2 : FD (IX z ow 201 220) s.2 d6 := (l1.fd hw).tr (kk.fd hw)
        have es2 : ES (IX z ow 201 220) s ow (s.1, d6) ow := FD.es (sh := s.1) (d := s.2) fd2
        refine ⟨ow, y.2.2.2.1, es2, c4.1, c1.2.tr c4.2, by rw [el]; exact k4, fun k hk => ?_⟩
        have hk2 : k < (oddl R).length / 2 := by rw [← el]; exact hk
        have eg : (pairsL R).getD k (0, 0) = exN R ((oddl R).length / 2) 1000 (P0 R) k := by
          rw [e, List.getD_eq_getElem?_getD, List.getElem?_map, List.getElem?_range hk2]
          rfl
        rw [eg]
        exact k5 k hk2
end KEX
/-! 9zc.kplan.lean.txt -/
/-! the planner of the class: begin, addPairs -/
/-- what begin() touches -/
def BGF (z : Nat) (d d' : Dt) : Prop := d'.2 = d.2 ∧ ∀ a, a < z + 221 ∨ (z + 222 < a ∧ a < z + 228) ∨ z + 233 < a → d'.1 a = d.1 a
section KPN
variable {s s' : AS} {sh : Sh} {d d0 d' : Dt} {z : Nat} {ow ow' : Nat → Nat} {R K : Nat → Int32} {u : Bool} {y : YL} {N n m k i j c p q x e v a b S cc lo hi : Nat} {T T' D L Lp Lp' : Nat → Nat} {M : Nat → Prop} {Q : AS → Prop}
theorem BGF.rf : BGF z d d := ⟨rfl, fun _ _ => rfl⟩
theorem BGF.tr {d1 d2 : Dt} (h1 : BGF z d d1) (h2 : BGF z d1 d2) : BGF z d d2 := ⟨h2.1.trans h1.1, fun a q => (h2.2 a q).trans (h1.2 a q)⟩
theorem BGF.w {i k : Nat} {v : Int32} (hi : i = 221 ∨ i = 222 ∨ (228 ≤ i ∧ i ≤ 233)) : BGF z d (wI d (z + i) k v) := ⟨rfl, fun a q => wI_n (by omega)⟩
theorem BGF.row {i : Nat} {f : Nat → Int32} (hi : i = 221 ∨ i = 222 ∨ (228 ≤ i ∧ i ≤ 233)) : BGF z d (va_up d.1 (z + i) f, d.2) := ⟨rfl, fun a q => va_up_n (by omega)⟩
theorem vr_n {d : Dt} {a b : Nat} {f : Nat → Int32} (h : b ≠ a) : ((va_up d.1 a f, d.2) : Dt).1 b = d.1 b := va_up_n h
theorem cO_p2 {i : Nat} (h : 221 ≤ i) (h2 : i ≤ 223 ∨ 228 ≤ i) (h3 : i ≤ 234) : cOl.getD i 1 = 0 := by
  rcases Nat.lt_or_ge i 228 with q | q
  · have e : i = 221 ∨ i = 222 ∨ i = 223 := by omega
    rcases e with rfl | rfl | rfl <;> decide
  · exact cO_pl q h3
theorem BGF.fd (h : BGF z d d') (hw : OWS ow z) : FD (IX z ow 221 234) d d' := fun a ha => by
  have q : ∀ i, 221 ≤ i → (i ≤ 223 ∨ 228 ≤ i) → i ≤ 234 → a ≠ z + i := fun i h1 h2 h3 e => by
    refine ha ?_
    rw [e]
    unfold IX
    rw [onr_s (hw i (by omega) (cO_p2 h1 h2 h3)) (by omega)]
    exact ⟨h1, h3⟩
  refine ⟨h.2 a ?_, by rw [h.1], by rw [h.1], by rw [h.1]⟩
  have e1 := q 221 (by omega) (by omega) (by omega)
  have e2 := q 222 (by omega) (by omega) (by omega)
  have e3 := q 228 (by omega) (by omega) (by omega)
  have e4 := q 229 (by omega) (by omega) (by omega)
  have e5 := q 230 (by omega) (by omega) (by omega)
  have e6 := q 231 (by omega) (by omega) (by omega)
  have e7 := q 232 (by omega) (by omega) (by omega)
  have e8 := q 233 (by omega) (by omega) (by omega)
  omega
/-- the planner's own changes -/
theorem ci_pln (h : CI s z ow R K u y cc) (he : ES (IX z ow 221 234) s ow s' ow') (ht : ∃ S V, TB s'.1 s'.2 z ow' 222 4 S V Lp' ∧ S ≤ 2000) (hL : ∀ c, c < 4 → Lp' c ≤ 4000) (m1 : s'.1.1.2.2 + 2 * smN y.2.2.1 4 ≤ s.1.1.2.2 + 2 * smN Lp' 4) (m2 : 4 * s'.1.1.2.1 + smN y.2.2.1 4 ≤ 4 * s.1.1.2.1 + smN Lp' 4) : CI s' z ow' R K u (y.1, y.2.1, Lp', y.2.2.2.1, y.2.2.2.2) cc ∧ RFR z s s' := by
  obtain ⟨hK, hw, b1, b2, b3, b4, b5, b6, b7, b8, b9, b10, b11, b12⟩ := h
  have r0 := es_row hK hw he (i := 0) (by decide) (by omega)
  have hcs : CS s'.1 s'.2 z ow' Lp' y.2.2.2.1 y.2.2.2.2 := by
    obtain ⟨⟨h1, h2, h3⟩, -, ⟨a, t1, t2, t3, t4, t5, t6⟩, b, g, g1, g2, g3, g4, g5, g6, g7, g8, g9⟩ := b3
    have e1 := he.1
    have e2 := he.2.1
    have qa := he.2.2 a t3.2.1
    have qb := he.2.2 b g3.2.1
    have Xb : ¬ IX z ow 221 234 b := fun q => by
      unfold IX at q
      rw [onr_r (o := 0) (k := 0) g2 (by omega)] at q
      omega
    have rb := qb.2.2.2.2 Xb
    have r78 := es_row hK hw he (i := 78) (by decide) (by omega)
    have r140 := es_row hK hw he (i := 140) (by decide) (by omega)
    have r203 := es_row hK hw he (i := 203) (by decide) (by omega)
    have r201 := es_row hK hw he (i := 201) (by decide) (by omega)
    have l1 := t3.2.1
    have l2 := g3.2.1
    exact ⟨⟨fun c hc => by rw [r78.2.2.2]; exact h1 c hc, fun c hc => by rw [r140.2.2.2]; exact h2 c hc, fun c hc => by rw [r203.2.2.2]; exact h3 c hc⟩, ⟨ht, hL⟩, ⟨a, by rw [r201.2.2.2]; exact t1, by rw [qa.2.2.2.1]; exact t2, ⟨by rw [e1]; exact t3.1, by omega, by rw [qa.1]; exact t3.2.2⟩, by rw [qa.2.1]; exact t4, t5, t6⟩, b, g, by rw [r0.2.2.2]; exact g1, by rw [qb.2.2.2.1]; exact g2, ⟨by rw [e1]; exact g3.1, by omega, by rw [qb.1]; exact g3.2.2⟩, by rw [qb.2.1]; exact g4, g5, g6, by rw [r0.1]; exact g7, g8, fun i hi9 => by rw [rb.1]; exact g9 i hi9⟩
  refine ⟨⟨KS.es hK he, OWS.es hw hK he, bk_ix b1 (Or.inl rfl) hK hw he (by omega), bk_ix b2 (Or.inr rfl) hK hw he (by omega), hcs, pb_ix b4 hK hw he (by omega) (by omega), pb_ix b5 hK hw he (by omega) (by omega), wy_ix b6 hK hw he (by omega), prl_ix b7 hK hw he (by omega), prt_ix b8 b3 hK hw he (by omega), by rw [r0.1]; exact b9, ?_, ?_, tln_eq b12 (congrFun (es_row hK hw he (i := 201) (by decide) (by omega)).1 7)⟩, RFR.ix hK hw he (by omega)⟩
  · show s'.1.1.2.2 ≤ 75638 + 2 * (pot y.1 + pot y.2.1 + smN Lp' 4 + y.2.2.2.1 + y.2.2.2.2) + 5 * cc
    omega
  · show 4 * s'.1.1.2.1 ≤ 4 * (z + 264) + (pot y.1 + pot y.2.1 + smN Lp' 4 + 4 * y.2.2.2.1 + y.2.2.2.2) + 4 * cc
    omega
/-- .. while its table is left -/
theorem ci_pf (h : CI s z ow R K u y cc) (hf : PF z s.2 d') : CI (s.1, d') z ow R K u y cc ∧ RFR z s (s.1, d') := by
  have hw := h.2.1
  have he : ES (IX z ow 228 234) s ow (s.1, d') ow := FD.es (sh := s.1) (d := s.2) (hf.fd hw)
  have he2 : ES (IX z ow 221 234) s ow (s.1, d') ow := he.mono (fun a _ q => ix_mono q (by omega) (by omega))
  obtain ⟨⟨S, V, h4, h5⟩, h6⟩ := h.2.2.2.2.1.2.1
  exact ci_pln h he2 ⟨S, V, tb_ix h4 h.1 hw (by decide) he (by omega), h5⟩ h6 (Nat.le_refl _) (Nat.le_refl _)
theorem bg_loop (hK : KS sh z) (hN : WN R) (hW : WS R) (hT : TB sh d0 z ow 4 9 (nn R 1) (vS R) L) (hw : OWS ow z) (h8 : d0.1 (z + 221) 8 = nI (nn R 1)) : ∀ (m i fu : Nat) (d : Dt), i + m = nn R 1 → m < fu → BGF z d0 d → d.1 (z + 221) = d0.1 (z + 221) → d.1 (z + 222) = d0.1 (z + 222) → (∀ s, s < i → d.1 (z + 230) s = nI (eA R s) ∧ d.1 (z + 231) s = nI (eB R s) ∧ d.1 (z + 232) s = nI (T0 R s) ∧ d.1 (z + 233) s = nI (T0 R s)) → Rn (f_X5_begin_59 N sh fu (z + 221) (nI i) d) (fun d' => BGF z d0 d' ∧ d'.1 (z + 221) = d0.1 (z + 221) ∧ d'.1 (z + 222) = d0.1 (z + 222) ∧ ∀ s, s < nn R 1 → d'.1 (z + 230) s = nI (eA R s) ∧ d'.1 (z + 231) s = nI (eB R s) ∧ d'.1 (z + 232) s = nI (T0 R s) ∧ d'.1 (z + 233) s = nI (T0 R s))
  | 0, i, fu, d, hc, hf, hF, h1, h2, hs => by
    obtain ⟨fu, rfl⟩ : ∃ q, fu = q + 1 := ⟨fu - 1, by omega⟩
    have n1 := hN.2.1.2
    show Rn (g_X5_begin_59 N sh (f_X5_begin_59 N sh fu) (z + 221) (nI i) d) _
    unfold g_X5_begin_59 f_X5_begin_137
    refine r_gI hK (i := 221) (c := 5) rfl ?_
    rw [h1, h8]
    refine rn_t (nI_le (by omega) (by omega)) ?_
    have e : i = nn R 1 := by omega
    rw [e] at hs
    exact rn_some ⟨hF, h1, h2, hs⟩
  | m + 1, i, fu, d, hc, hf, hF, h1, h2, hs => by
    obtain ⟨fu, rfl⟩ : ∃ q, fu = q + 1 := ⟨fu - 1, by omega⟩
    have n1 := hN.2.1.2
    have hi : i < nn R 1 := by omega
    obtain ⟨e7, a2, e8, b2, hne⟩ := ws_e hW hN hi
    have tb : ∀ d1, BGF z d0 d1 → TB sh d1 z ow 4 9 (nn R 1) (vS R) L := fun d1 f1 => tb_ix (s := (sh, d0)) (s' := (sh, d1)) hT hK hw (by decide) ((f1.fd hw).es) (by omega)
    show Rn (g_X5_begin_59 N sh (f_X5_begin_59 N sh fu) (z + 221) (nI i) d) _
    unfold g_X5_begin_59
    refine r_gI hK (i := 221) (c := 5) rfl ?_
    rw [h1, h8]
    refine rn_f (nI_ge hi (by omega)) ?_
    refine r_gP hK 221 5 6 230 rfl (by decide) ?_
    refine r_gP hK 221 5 0 3 rfl (by decide) ?_
    refine r_gP hK 3 1 1 4 rfl (by decide) ?_
    refine rn_eq (tb_get (o := 4) (nc := 9) (c := 7) hK (by decide) (tb d hF) rfl hi rfl (by decide)) ?_
    have v7 : vS R 7 i = nI (eA R i) := e7
    rw [v7]
    refine rn_eq (q_sI (ks_a hK 230 0 150 rfl) i rfl (by omega) (by decide)) ?_
    have f1 : BGF z d0 (wI d (z + 230) i (nI (eA R i))) := hF.tr (BGF.w (Or.inr (Or.inr (by decide))))
    refine r_gP hK 221 5 7 231 rfl (by decide) ?_
    refine r_gP hK 221 5 0 3 rfl (by decide) ?_
    refine r_gP hK 3 1 1 4 rfl (by decide) ?_
    refine rn_eq (tb_get (o := 4) (nc := 9) (c := 8) hK (by decide) (tb _ f1) rfl hi rfl (by decide)) ?_
    have v8 : vS R 8 i = nI (eB R i) := e8
    rw [v8]
    refine rn_eq (q_sI (ks_a hK 231 0 150 rfl) i rfl (by omega) (by decide)) ?_
    have f2 : BGF z d0 (wI (wI d (z + 230) i (nI (eA R i))) (z + 231) i (nI (eB R i))) := f1.tr (BGF.w (Or.inr (Or.inr (by decide))))
    refine r_gP hK 221 5 10 233 rfl (by decide) ?_
    refine r_gP hK 221 5 0 3 rfl (by decide) ?_
    refine rn_eq (k_sidesDue hK (tb _ f2) hW hi) ?_
    refine rn_eq (q_sI (ks_a hK 233 0 150 rfl) i rfl (by omega) (by decide)) ?_
    refine r_gP hK 221 5 9 232 rfl (by decide) ?_
    refine r_gP hK 221 5 10 233 rfl (by decide) ?_
    refine rn_eq (q_aT (ks_a hK 233 0 150 rfl) i rfl (by omega) (by decide)) ?_
    rw [wI_s, va_up_s]
    refine rn_eq (q_sI (ks_a hK 232 0 150 rfl) i rfl (by omega) (by decide)) ?_
    rw [nI_1]
    refine bg_loop hK hN hW hT hw h8 m (i + 1) fu _ (by omega) (by omega) ((f2.tr (BGF.w (i := 233) (Or.inr (Or.inr (by decide))))).tr (BGF.w (i := 232) (Or.inr (Or.inr (by decide))))) ?_ ?_ (fun s hs' => ?_)
    · rw [wI_n (by omega), wI_n (by omega), wI_n (by omega), wI_n (by omega)]
      exact h1
    · rw [wI_n (by omega), wI_n (by omega), wI_n (by omega), wI_n (by omega)]
      exact h2
    · rw [wI_n (show z + 230 ≠ z + 232 by omega), wI_n (show z + 230 ≠ z + 233 by omega), wI_n (show z + 230 ≠ z + 231 by omega), wI_s, wI_n (show z + 231 ≠ z + 232 by omega), wI_n (show z + 231 ≠ z + 233 by omega), wI_s, wI_n (show z + 231 ≠ z + 230 by omega), wI_s, wI_n (show z + 232 ≠ z + 233 by omega), wI_n (show z + 232 ≠ z + 231 by omega), wI_n (show z + 232 ≠ z + 230 by omega), wI_n (show z + 233 ≠ z + 232 by omega), wI_s, wI_n (show z + 233 ≠ z + 231 by omega), wI_n (show z + 233 ≠ z + 230 by omega)]
      by_cases es : s = i
      · rw [es, va_up_s, va_up_s, va_up_s, va_up_s]
        exact ⟨rfl, rfl, rfl, rfl⟩
      · rw [va_up_n es, va_up_n es, va_up_n es, va_up_n es]
        exact hs s (by omega)
theorem k_begin {v : Int32} (hN2 : 300 ≤ N) (hK : KS sh z) (hN : WN R) (hW : WS R) (hw : OWS ow z) (hT : TB sh d z ow 4 9 (nn R 1) (vS R) L) : Rn (f_X5_begin N sh (z + 221) v d) (fun d' => BGF z d d' ∧ PL d' z R (T0 R) ∧ d'.1 (z + 221) 12 = nI 0 ∧ d'.1 (z + 222) 1 = nI 0 ∧ ∀ t, t < nn R 1 → d'.1 (z + 233) t = nI (T0 R t)) := by
  have n1 := hN.2.1.2
  unfold f_X5_begin
  refine rn_t (ks_o hK 221 5 rfl) ?_
  refine r_gP hK 221 5 3 222 rfl (by decide) ?_
  refine r_pI hK (i := 222) (c := 8) rfl ?_
  refine r_pI hK (i := 221) (c := 5) rfl ?_
  refine r_gP hK 221 5 4 228 rfl (by decide) ?_
  refine rn_eq (fill_eq (ks_a hK 228 0 7 rfl) (by decide) (by omega)) ?_
  refine r_gP hK 221 5 4 228 rfl (by decide) ?_
  refine rn_eq (q_sI (ks_a hK 228 0 7 rfl) 6 rfl (by decide) (by decide)) ?_
  refine r_gP hK 221 5 5 229 rfl (by decide) ?_
  refine rn_eq (fill_eq (ks_a hK 229 0 60 rfl) (by decide) (by omega)) ?_
  refine r_gP hK 221 5 0 3 rfl (by decide) ?_
  refine r_gP hK 3 1 1 4 rfl (by decide) ?_
  generalize hd2 : (va_up (wI (va_up (wI (wI d (z + 222) 1 0) (z + 221) 12 0).1 (z + 228) fun k => if k < 7 then (0 : Int32) else (wI (wI d (z + 222) 1 0) (z + 221) 12 0).1 (z + 228) k, (wI (wI d (z + 222) 1 0) (z + 221) 12 0).2) (z + 228) 6 v).1 (z + 229) fun k => if k < 60 then (-1 : Int32) else (wI (va_up (wI (wI d (z + 222) 1 0) (z + 221) 12 0).1 (z + 228) fun k => if k < 7 then (0 : Int32) else (wI (wI d (z + 222) 1 0) (z + 221) 12 0).1 (z + 228) k, (wI (wI d (z + 222) 1 0) (z + 221) 12 0).2) (z + 228) 6 v).1 (z + 229) k, (wI (va_up (wI (wI d (z + 222) 1 0) (z + 221) 12 0).1 (z + 228) fun k => if k < 7 then (0 : Int32) else (wI (wI d (z + 222) 1 0) (z + 221) 12 0).1 (z + 228) k, (wI (wI d (z + 222) 1 0) (z + 221) 12 0).2) (z + 228) 6 v).2) = d2
  have f2 : BGF z d d2 := by
    rw [← hd2]
    exact ((((BGF.w (i := 222) (Or.inr (Or.inl rfl))).tr (BGF.w (i := 221) (Or.inl rfl))).tr (BGF.row (i := 228) (Or.inr (Or.inr (by decide))))).tr (BGF.w (i := 228) (Or.inr (Or.inr (by decide))))).tr (BGF.row (i := 229) (Or.inr (Or.inr (by decide))))
  have g12 : d2.1 (z + 221) 12 = 0 := by
    rw [← hd2]
    rw [vr_n (by omega), wI_n (by omega), vr_n (by omega), wI_s, va_up_s]
  have g222 : d2.1 (z + 222) 1 = 0 := by
    rw [← hd2]
    rw [vr_n (by omega), wI_n (by omega), vr_n (by omega), wI_n (by omega), wI_s, va_up_s]
  have t2 : TB sh d2 z ow 4 9 (nn R 1) (vS R) L := tb_ix (s := (sh, d)) (s' := (sh, d2)) hT hK hw (by decide) ((f2.fd hw).es) (by omega)
  refine r_gI hK (i := 4) (c := 8) rfl ?_
  rw [t2.1, show (150 : Int32) = nI 150 from rfl, o_min_nI (by omega) (by decide), Nat.min_eq_left n1]
  refine r_pI hK (i := 221) (c := 5) rfl ?_
  have f3 : BGF z d2 (wI d2 (z + 221) 8 (nI (nn R 1))) := BGF.w (Or.inl rfl)
  have t3 : TB sh (wI d2 (z + 221) 8 (nI (nn R 1))) z ow 4 9 (nn R 1) (vS R) L := tb_ix (s := (sh, d2)) (s' := (sh, wI d2 (z + 221) 8 (nI (nn R 1)))) t2 hK hw (by decide) ((f3.fd hw).es) (by omega)
  refine rn_mono (bg_loop (d0 := wI d2 (z + 221) 8 (nI (nn R 1))) hK hN hW t3 hw (by rw [wI_s, va_up_s]) (nn R 1) 0 N _ (by omega) (by omega) BGF.rf rfl rfl (fun s h => absurd h (Nat.not_lt_zero s))) (fun d5 h5 => ?_)
  obtain ⟨k1, k2, k3, k4⟩ := h5
  refine ⟨(f2.tr f3).tr k1, ⟨?_, fun t ht => ?_⟩, ?_, ?_, fun t ht => (k4 t ht).2.2.2⟩
  · rw [k2, wI_s, va_up_s]
  · obtain ⟨y1, y2, y3, -⟩ := k4 t ht
    have := T0_le hW ht
    exact ⟨y1, y2, y3, by omega⟩
  · rw [k2, wI_s, va_up_n (by decide)]
    exact g12
  · rw [k3, wI_n (by omega)]
    exact g222
end KPN
