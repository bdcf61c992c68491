/-! the law's loop, and the law -/
section LOOP
variable {z L N : Nat} {xs : Nat → Int32}
theorem lp_go {k : Nat} (h : ¬ (Int32.ofNat L - (6 : Int32)) < nI (6 * k)) (hL : L ≤ 3072) (hk : k ≤ 512) : 6 * k + 6 ≤ L := by
  rcases Nat.lt_or_ge L 6 with g | g
  · have e : ∀ L, L < 6 → Int32.ofNat L - (6 : Int32) < 0 := by decide
    exact absurd (Int32.lt_of_lt_of_le (e L g) (nI_pos' (by omega))) h
  · have e : Int32.ofNat L - (6 : Int32) = nI (L - 6) := pk_sub g
    rw [e] at h
    rcases Nat.lt_or_ge (L - 6) (6 * k) with q | q
    · exact absurd (nI_lt q (by omega)) h
    · omega
set_option maxRecDepth 20000 in
theorem law_loop (hN : 2 ^ 40 ≤ N) (hL : L ≤ 3072) (m : Nat) : ∀ (k fu : Nat) (s : AS), k + m = 512 → m < fu → LI z k s → Rn (f_L_law_18 N L xs fu z (z + 242) (nI (6 * k)) s) (fun r => r.1 = 1 ∧ ∃ k', k' ≤ 512 ∧ LI z k' r.2) := by
  induction m with
  | zero =>
    intro k fu s hk hf h
    obtain ⟨fu, rfl⟩ : ∃ q, fu = q + 1 := ⟨fu - 1, by omega⟩
    show Rn (g_L_law_18 N L xs (f_L_law_18 N L xs fu) z (z + 242) (nI (6 * k)) s) _
    unfold g_L_law_18
    refine rn_ite (fun h0 => ?_) (fun h0 => ?_)
    · unfold f_L_law_1475
      exact rn_some ⟨rfl, k, by omega, h⟩
    · have hp := lp_go h0 hL (by omega)
      omega
  | succ m ih =>
    intro k fu s hk hf h
    obtain ⟨fu, rfl⟩ : ∃ q, fu = q + 1 := ⟨fu - 1, by omega⟩
    show Rn (g_L_law_18 N L xs (f_L_law_18 N L xs fu) z (z + 242) (nI (6 * k)) s) _
    unfold g_L_law_18
    refine rn_ite (fun h0 => ?_) (fun h0 => ?_)
    · unfold f_L_law_1475
      exact rn_some ⟨rfl, k, by omega, h⟩
    · have hp := lp_go h0 hL (by omega)
      have kk : ∀ s', LI z (k + 1) s' → Rn (f_L_law_18 N L xs fu z (z + 242) (nI (6 * k) + 6) s') (fun r => r.1 = 1 ∧ ∃ k', k' ≤ 512 ∧ LI z k' r.2) := fun s' h' => by
        have e : nI (6 * k) + (6 : Int32) = nI (6 * (k + 1)) := nI_add (6 * k) 6
        rw [e]
        exact ih (k + 1) fu s' (by omega) (by omega) h'
      refine rn_eq (sld_ok0 hL hp) ?_
      refine rn_ite (fun _ => arm_0 hN hL hp h kk) (fun _ => ?_)
      refine rn_ite (fun _ => arm_1 hN hL hp h kk) (fun _ => ?_)
      refine rn_ite (fun _ => arm_2 hN hL hp h kk) (fun _ => ?_)
      refine rn_ite (fun _ => arm_3 hN hL hp h kk) (fun _ => ?_)
      refine rn_ite (fun _ => arm_4 hN hL hp h kk) (fun _ => ?_)
      refine rn_ite (fun _ => arm_5 hN hL hp h kk) (fun _ => ?_)
      refine rn_ite (fun _ => arm_6 hN hL hp h kk) (fun _ => ?_)
      refine rn_ite (fun _ => arm_7 hN hL hp h kk) (fun _ => ?_)
      refine rn_ite (fun _ => arm_8 hN hL hp h kk) (fun _ => ?_)
      refine rn_ite (fun _ => arm_9 hN hL hp h kk) (fun _ => ?_)
      refine rn_ite (fun _ => arm_10 hN hL hp h kk) (fun _ => ?_)
      refine rn_ite (fun _ => arm_11 hN hL hp h kk) (fun _ => ?_)
      refine rn_ite (fun _ => arm_12 hN hL hp h kk) (fun _ => ?_)
      refine rn_ite (fun _ => arm_13 hN hL hp h kk) (fun _ => ?_)
      refine rn_ite (fun _ => arm_14 hN hL hp h kk) (fun _ => ?_)
      refine rn_ite (fun _ => arm_15 hN hL hp h kk) (fun _ => ?_)
      refine rn_ite (fun _ => arm_16 hN hL hp h kk) (fun _ => ?_)
      refine rn_ite (fun _ => arm_17 hN hL hp h kk) (fun _ => ?_)
      refine rn_ite (fun _ => arm_18 hN hL hp h kk) (fun _ => ?_)
      refine rn_ite (fun _ => arm_19 hN hL hp h kk) (fun _ => ?_)
      refine rn_ite (fun _ => arm_20 hN hL hp h kk) (fun _ => ?_)
      refine rn_ite (fun _ => arm_21 hN hL hp h kk) (fun _ => ?_)
      refine rn_ite (fun _ => arm_22 hN hL hp h kk) (fun _ => ?_)
      refine rn_ite (fun _ => arm_23 hN hL hp h kk) (fun _ => ?_)
      refine rn_ite (fun _ => arm_24 hN hL hp h kk) (fun _ => ?_)
      refine rn_ite (fun _ => arm_25 hN hL hp h kk) (fun _ => ?_)
      refine rn_ite (fun _ => arm_26 hN hL hp h kk) (fun _ => ?_)
      refine rn_ite (fun _ => arm_27 hN hL hp h kk) (fun _ => ?_)
      refine rn_ite (fun _ => arm_28 hN hL hp h kk) (fun _ => ?_)
      refine rn_ite (fun _ => arm_29 hN hL hp h kk) (fun _ => ?_)
      refine rn_ite (fun _ => arm_30 hN hL hp h kk) (fun _ => ?_)
      refine rn_ite (fun _ => arm_31 hN hL hp h kk) (fun _ => ?_)
      refine rn_ite (fun _ => arm_32 hN hL hp h kk) (fun _ => ?_)
      refine rn_ite (fun _ => arm_33 hN hL hp h kk) (fun _ => ?_)
      refine rn_ite (fun _ => arm_34 hN hL hp h kk) (fun _ => ?_)
      refine rn_ite (fun _ => arm_35 hN hL hp h kk) (fun _ => ?_)
      refine rn_ite (fun _ => arm_36 hN hL hp h kk) (fun _ => ?_)
      refine rn_ite (fun _ => arm_37 hN hL hp h kk) (fun _ => ?_)
      refine rn_ite (fun _ => arm_38 hN hL hp h kk) (fun _ => ?_)
      refine rn_ite (fun _ => arm_39 hN hL hp h kk) (fun _ => ?_)
      refine rn_ite (fun _ => arm_40 hN hL hp h kk) (fun _ => ?_)
      unfold f_L_law_1469
      exact kk _ (li_mono h)
theorem law_all {M : Nat} (hM : 2 ^ 40 ≤ M) (hL : L ≤ 3072) : Rn (f_L_law (M + 200) L xs (as0 z)) (fun r => r.1 = 1 ∧ r.2.1.1.2.1 ≤ z + 45000 ∧ r.2.1.1.2.2 ≤ 290000) := by
  unfold f_L_law f_L_law_3
  refine rn_bind (ct_X11_init_0 (M := M) (cb_obj 11 cb_0 rfl)) (fun s hc => ?_)
  unfold f_L_law_7
  rw [show s.1.1.2.1 = z + 242 from cb_nx hc]
  unfold f_L_law_11
  refine rn_bind (ct_X12_init_0 (M := M) (cb_obj 12 hc rfl)) (fun s hc => ?_)
  unfold f_L_law_15
  have hci := ci_0 hc (fun q hq => List.contains_iff_mem.mp (List.all_eq_true.mp (show cPt.all (fun q => List.contains _ q) = true by decide) q hq))
  have h0 : LI z 0 s := ⟨_, _, _, _, _, 0, Nat.le_refl _, hci, ri_0 hc, wk_0, wk_0⟩
  refine rn_mono (law_loop (z := z) (xs := xs) (N := M + 200) (by omega) hL 512 0 (M + 200) s rfl (by omega) h0) (fun r hr => ?_)
  obtain ⟨h1, k', hk, h2⟩ := hr
  exact ⟨h1, li_room h2 (by omega)⟩
theorem law_pure : LawPure := fun z L xs hL => by
  obtain ⟨r, e, h1, h2, h3⟩ := law_all (M := 2 ^ 40) (z := z) (xs := xs) (Nat.le_refl _) hL
  refine ⟨2 ^ 40 + 200, r.2, ?_, by omega, by omega⟩
  rw [e, ← h1]
end LOOP
