set_option maxRecDepth 20000 in
theorem le_X4_pairUp_43 {N : Nat} {r : AS}   {s : AS} (hf : f_X4_pairUp_43 N  s = some r) : Le s r := by
  unfold f_X4_pairUp_43 at hf
  cases hf
  exact Le.rf
set_option maxRecDepth 20000 in
theorem zb_X4_pairUp_43 {N : Nat} {r : AS} {E : EV} (hE : TG E none r)    {s : AS} (hf : f_X4_pairUp_43 N  s = some r) : Z E yX4_pairUp cX4_pairUp 1 none 5 s 43 [] [] := by
  unfold f_X4_pairUp_43 at hf
  cases hf
  exact z_return hE rfl dX4_pairUp_43
set_option maxRecDepth 20000 in
theorem le_X4_pairUp_28 {N : Nat} {r : AS}  {l0 : Nat} {s : AS} (hf : f_X4_pairUp_28 N l0 s = some r) : Le s r := by
  unfold f_X4_pairUp_28 at hf
  obtain ⟨v8, -, hf⟩ := ob hf
  exact Le.via (le_X4_pairUp_43 hf) rfl
set_option maxRecDepth 20000 in
theorem zb_X4_pairUp_28 {N : Nat} {r : AS} {E : EV} (hE : TG E none r)   {l0 : Nat} {s : AS} (hf : f_X4_pairUp_28 N l0 s = some r) : Z E yX4_pairUp cX4_pairUp 1 none 5 s 28 [(0, .ref l0)] [] := by
  unfold f_X4_pairUp_28 at hf
  refine z_aload_n 0 dX4_pairUp_28 rfl rfl ?_
  obtain ⟨v8, ev8, hf⟩ := ob hf
  refine z_cVv (ci := 4) (T := TX4) (N := 12) (As := []) (rest := []) (zm_X4_pairExactly ev8).2 (zm_X4_pairExactly ev8).1 (by decide) rfl (Or.inl rfl) mw_46_2 mw_46_3 mw_46_4 mw_2_3 mw_46_5 yk_X4_pairExactly (by decide) (by decide) rfl (Nat.le_of_ble_eq_true rfl) rfl dX4_pairUp_29 ?_
  refine z_goto 43 dX4_pairUp_32 (by decide) ?_
  refine z_lv [] [] rfl ?_
  exact zb_X4_pairUp_43 hE hf
set_option maxRecDepth 20000 in
theorem lm_X4_pairUp {N : Nat} {s : AS} {l0 : Nat} {r : AS} (hf : f_X4_pairUp N l0 s = some r) : Le s r := by
  unfold f_X4_pairUp at hf
  refine ite_c hf (fun hf => ?_) (fun hf => ?_)
  · skip
    obtain ⟨v1, -, hf⟩ := ob hf
    obtain ⟨d2, -, hf⟩ := ob hf
    obtain ⟨d3, -, hf⟩ := ob hf
    obtain ⟨v4, -, hf⟩ := ob hf
    refine ite_c hf (fun hf => ?_) (fun hf => ?_)
    · obtain ⟨v5, -, hf⟩ := ob hf
      obtain ⟨v6, -, hf⟩ := ob hf
      exact Le.via (le_X4_pairUp_43 hf) rfl
    · obtain ⟨v7, ev7, hf⟩ := ob hf
      refine Le.of (t := (s.1, d3)) rfl ((lm_X4_fillTable ev7).tr ?_)
      exact Le.via (le_X4_pairUp_28 hf) rfl
  · cases hf
set_option maxRecDepth 20000 in
theorem zm_X4_pairUp {N : Nat} {s : AS} {l0 : Nat} {r : AS} (hf : f_X4_pairUp N l0 s = some r) : isO s.1 l0 4 ∧ ∀ (l : Launch) (G : GG), Mt l G yX4_pairUp cX4_pairUp 1 none 5 [.ref l0] s none r := by
  have hf0 := hf
  unfold f_X4_pairUp at hf
  refine ite_d hf (fun hO hf => ?_) (fun _ hf => ?_)
  · refine ⟨hO, fun l G => mt_of (Or.inl (by decide)) (Nat.le_of_ble_eq_true rfl) (lm_X4_pairUp hf0) (fun E hE => ?_)⟩
    show Z E yX4_pairUp cX4_pairUp 1 none 5 s 0 [(0, .ref l0)] []
    refine z_aload_n 0 dX4_pairUp_0 rfl rfl ?_
    obtain ⟨v1, ev1, hf⟩ := ob hf
    refine z_cVi (ci := 4) (T := TX4) (N := 12) (As := []) (rest := []) (zm_X4_list ev1).2 (zm_X4_list ev1).1 (by decide) rfl (Or.inl rfl) mw_46_0 mw_39_10 mw_39_11 mw_2_3 mw_39_12 yk_X4_list (by decide) (by decide) rfl (Nat.le_of_ble_eq_true rfl) rfl dX4_pairUp_1 ?_
    refine z_pop dX4_pairUp_4 rfl ?_
    refine z_aload_n 0 dX4_pairUp_5 rfl rfl ?_
    refine z_iconst 0 0 dX4_pairUp_6 (by decide) ?_
    refine z_pI (ci := 4) (k := 10) (C := RX4) (T := TX4) (N := 12) rfl inlX4 (by decide) mw_5_9 (fun _ _ _ _ h9 => h9) tyX4 tyX4_ok nmX4 rfl hf (Or.inl (by decide)) rfl rfl rfl dX4_pairUp_7  (fun d2 hf => ?_)
    refine z_aload_n 0 dX4_pairUp_10 rfl rfl ?_
    refine z_iconst 0 0 dX4_pairUp_11 (by decide) ?_
    refine z_pI (ci := 4) (k := 11) (C := RX4) (T := TX4) (N := 12) rfl inlX4 (by decide) mw_5_10 (fun _ _ _ _ h9 => h9) tyX4 tyX4_ok nmX4 rfl hf (Or.inl (by decide)) rfl rfl rfl dX4_pairUp_12  (fun d3 hf => ?_)
    refine z_aload_n 0 dX4_pairUp_15 rfl rfl ?_
    refine z_gI (ci := 4) (k := 3) (C := RX4) (T := TX4) (N := 12) rfl inlX4 (by decide) mw_5_1 (fun _ _ _ _ h9 => h9) hf (by decide) rfl dX4_pairUp_16  (fun v4 hf => ?_)
    refine z_bipush 14 14 dX4_pairUp_19 (by decide) ?_
    refine z_icmp_gt 35 hf dX4_pairUp_21 (by decide) (fun hf => ?_) (fun hf => ?_)
    · refine z_aload_n 0 dX4_pairUp_35 rfl rfl ?_
      obtain ⟨v5, ev5, hf⟩ := ob hf
      refine z_cVv (ci := 4) (T := TX4) (N := 12) (As := []) (rest := []) (zm_X4_pairInOrder ev5).2 (zm_X4_pairInOrder ev5).1 (by decide) rfl (Or.inl rfl) mw_46_14 mw_46_15 mw_46_16 mw_2_3 mw_46_17 yk_X4_pairInOrder (by decide) (by decide) rfl (Nat.le_of_ble_eq_true rfl) rfl dX4_pairUp_36 ?_
      refine z_aload_n 0 dX4_pairUp_39 rfl rfl ?_
      obtain ⟨v6, ev6, hf⟩ := ob hf
      refine z_cVv (ci := 4) (T := TX4) (N := 12) (As := []) (rest := []) (zm_X4_exchangeAll ev6).2 (zm_X4_exchangeAll ev6).1 (by decide) rfl (Or.inl rfl) mw_46_18 mw_46_19 mw_46_20 mw_2_3 mw_46_21 yk_X4_exchangeAll (by decide) (by decide) rfl (Nat.le_of_ble_eq_true rfl) rfl dX4_pairUp_40 ?_
      refine z_lv [] [] rfl ?_
      exact zb_X4_pairUp_43 hE hf
    · refine z_aload_n 0 dX4_pairUp_24 rfl rfl ?_
      obtain ⟨v7, ev7, hf⟩ := ob hf
      refine z_cVv (ci := 4) (T := TX4) (N := 12) (As := []) (rest := []) (zm_X4_fillTable ev7).2 (zm_X4_fillTable ev7).1 (by decide) rfl (Or.inr (tg_le hE (le_X4_pairUp_28 hf))) mw_46_1 mw_41_7 mw_41_8 mw_2_3 mw_41_9 yk_X4_fillTable (by decide) (by decide) rfl (Nat.le_of_ble_eq_true rfl) rfl dX4_pairUp_25 ?_
      exact zb_X4_pairUp_28 hE hf
  · cases hf
set_option maxRecDepth 20000 in
theorem zb_X5_addPairs_86 {N : Nat} {sh : Sh} {r : Dt} {E : EV} (hE : TG E none (sh, r))   {d : Dt} (hf : f_X5_addPairs_86 N sh  d = some r) : Z E yX5_addPairs cX5_addPairs 4 none 4 (sh, d) 86 [] [] := by
  unfold f_X5_addPairs_86 at hf
  cases hf
  exact z_return hE rfl dX5_addPairs_86
set_option maxRecDepth 20000 in
theorem zg_X5_addPairs_28 {N : Nat} {sh : Sh} {r : Dt} {k28 : Nat → Int32 → Dt → Option Dt} {E : EV} (hE : TG E none (sh, r))  (hk28 : ∀ (l0 : Nat) (l1 : Int32) (d : Dt), k28 l0 l1 d = some r → Z E yX5_addPairs cX5_addPairs 4 none 4 (sh, d) 28 [(0, .ref l0), (1, .int l1)] []) {l0 : Nat} {l1 : Int32} {d : Dt} (hf : g_X5_addPairs_28 N sh k28 l0 l1 d = some r) : Z E yX5_addPairs cX5_addPairs 4 none 4 (sh, d) 28 [(0, .ref l0), (1, .int l1)] [] := by
  unfold g_X5_addPairs_28 at hf
  refine z_iload_n 1 dX5_addPairs_28 rfl rfl ?_
  refine z_aload_n 0 dX5_addPairs_29 rfl rfl ?_
  refine z_gP (ci := 5) (k := 2) (C := RX5) (T := TX5) (N := 13) rfl inlX5 (by decide) mw_6_6 (fun _ _ _ _ h9 => h9) hf (by decide) rfl dX5_addPairs_30  (fun v9 hf => ?_)
  refine z_gI (ci := 4) (k := 10) (C := RX4) (T := TX4) (N := 12) rfl inlX4 (by decide) mw_47_15 (fun _ _ _ _ h9 => h9) hf (by decide) rfl dX5_addPairs_33  (fun v10 hf => ?_)
  refine z_icmp_ge 86 hf dX5_addPairs_36 (by decide) (fun hf => ?_) (fun hf => ?_)
  · refine z_lv [] [] rfl ?_
    exact zb_X5_addPairs_86 hE hf
  · refine z_aload_n 0 dX5_addPairs_39 rfl rfl ?_
    refine z_gP (ci := 5) (k := 2) (C := RX5) (T := TX5) (N := 13) rfl inlX5 (by decide) mw_6_6 (fun _ _ _ _ h9 => h9) hf (by decide) rfl dX5_addPairs_40  (fun v11 hf => ?_)
    refine z_gP (ci := 4) (k := 8) (C := RX4) (T := TX4) (N := 12) rfl inlX4 (by decide) mw_47_17 (fun _ _ _ _ h9 => h9) hf (by decide) rfl dX5_addPairs_43  (fun v12 hf => ?_)
    refine z_iload_n 1 dX5_addPairs_46 rfl rfl ?_
    refine z_aI hf dX5_addPairs_47  (fun v13 hf => ?_)
    refine z_istore_n [(2, .int v13), (0, .ref l0), (1, .int l1)] dX5_addPairs_48 rfl (by decide) rfl ?_
    refine z_aload_n 1 dX5_addPairs_49 rfl rfl ?_
    refine z_gP (ci := 5) (k := 2) (C := RX5) (T := TX5) (N := 13) rfl inlX5 (by decide) mw_6_6 (fun _ _ _ _ h9 => h9) hf (by decide) rfl dX5_addPairs_50  (fun v14 hf => ?_)
    refine z_gP (ci := 4) (k := 9) (C := RX4) (T := TX4) (N := 12) rfl inlX4 (by decide) mw_47_18 (fun _ _ _ _ h9 => h9) hf (by decide) rfl dX5_addPairs_53  (fun v15 hf => ?_)
    refine z_iload_n 2 dX5_addPairs_56 rfl rfl ?_
    refine z_aI hf dX5_addPairs_57  (fun v16 hf => ?_)
    refine z_istore_n [(3, .int v16), (2, .int v13), (0, .ref l0), (1, .int l1)] dX5_addPairs_58 rfl (by decide) rfl ?_
    refine z_aload_n 2 dX5_addPairs_59 rfl rfl ?_
    refine z_gP (ci := 5) (k := 5) (C := RX5) (T := TX5) (N := 13) rfl inlX5 (by decide) mw_5_20 (fun _ _ _ _ h9 => h9) hf (by decide) rfl dX5_addPairs_60  (fun v17 hf => ?_)
    refine z_iload_n 1 dX5_addPairs_63 rfl rfl ?_
    refine z_iload_n 0 dX5_addPairs_64 rfl rfl ?_
    refine z_sI hf dX5_addPairs_65  (fun d18 hf => ?_)
    refine z_aload_n 2 dX5_addPairs_66 rfl rfl ?_
    refine z_gP (ci := 5) (k := 5) (C := RX5) (T := TX5) (N := 13) rfl inlX5 (by decide) mw_5_20 (fun _ _ _ _ h9 => h9) hf (by decide) rfl dX5_addPairs_67  (fun v19 hf => ?_)
    refine z_iload_n 0 dX5_addPairs_70 rfl rfl ?_
    refine z_iload_n 1 dX5_addPairs_71 rfl rfl ?_
    refine z_sI hf dX5_addPairs_72  (fun d20 hf => ?_)
    refine z_aload_n 2 dX5_addPairs_73 rfl rfl ?_
    refine z_iload_n 1 dX5_addPairs_74 rfl rfl ?_
    refine z_iload_n 0 dX5_addPairs_75 rfl rfl ?_
    refine z_iconst 1 1 dX5_addPairs_76 (by decide) ?_
    obtain ⟨v21, ev21, hf⟩ := ob hf
    refine z_cVv (ci := 5) (T := TX5) (N := 13) (As := [.int v13, .int v16, .int (1 : Int32)]) (rest := []) (zm_X5_addWay ev21).2 (zm_X5_addWay ev21).1 (by decide) rfl (Or.inl rfl) mw_45_15 mw_45_16 mw_45_17 mw_2_7 mw_45_18 yk_X5_addWay (by decide) (by decide) rfl (Nat.le_of_ble_eq_true rfl) rfl dX5_addPairs_77 ?_
    refine z_iinc [(1, .int (l1 + 1)), (3, .int v16), (2, .int v13), (0, .ref l0)] 3 (l1 + 1) dX5_addPairs_80 rfl rfl (by decide) rfl ?_
    refine z_goto 28 dX5_addPairs_83 (by decide) ?_
    refine z_lv [(0, .ref l0), (1, .int (l1 + 1))] [3, 0] rfl ?_
    exact hk28 _ _ _ hf
set_option maxRecDepth 20000 in
theorem zb_X5_addPairs_28 {N : Nat} {sh : Sh} {r : Dt} {E : EV} (hE : TG E none (sh, r))  : ∀ (n : Nat) (l0 : Nat) (l1 : Int32) (d : Dt), f_X5_addPairs_28 N sh n l0 l1 d = some r → Z E yX5_addPairs cX5_addPairs 4 none 4 (sh, d) 28 [(0, .ref l0), (1, .int l1)] [] := by
  intro n
  induction n with
  | zero => intro l0 l1 d hf; cases hf
  | succ n ih => intro l0 l1 d hf; exact zg_X5_addPairs_28 hE ih hf
set_option maxRecDepth 20000 in
theorem zm_X5_addPairs {N : Nat} {sh : Sh} {d : Dt} {l0 : Nat} {r : Dt} (hf : f_X5_addPairs N sh l0 d = some r) : isO sh l0 5 ∧ ∀ (l : Launch) (G : GG), Mt l G yX5_addPairs cX5_addPairs 4 none 4 [.ref l0] (sh, d) none (sh, r) := by
  have hf0 := hf
  unfold f_X5_addPairs at hf
  refine ite_d hf (fun hO hf => ?_) (fun _ hf => ?_)
  · refine ⟨hO, fun l G => mt_of (Or.inl (by decide)) (Nat.le_of_ble_eq_true rfl) Le.rf (fun E hE => ?_)⟩
    show Z E yX5_addPairs cX5_addPairs 4 none 4 (sh, d) 0 [(0, .ref l0)] []
    refine z_aload_n 0 dX5_addPairs_0 rfl rfl ?_
    refine z_gP (ci := 5) (k := 4) (C := RX5) (T := TX5) (N := 13) rfl inlX5 (by decide) mw_5_19 (fun _ _ _ _ h9 => h9) hf (by decide) rfl dX5_addPairs_1  (fun v1 hf => ?_)
    refine z_iconst 5 5 dX5_addPairs_4 (by decide) ?_
    refine z_aload_n 0 dX5_addPairs_5 rfl rfl ?_
    refine z_gP (ci := 5) (k := 2) (C := RX5) (T := TX5) (N := 13) rfl inlX5 (by decide) mw_6_6 (fun _ _ _ _ h9 => h9) hf (by decide) rfl dX5_addPairs_6  (fun v2 hf => ?_)
    refine z_gI (ci := 4) (k := 10) (C := RX4) (T := TX4) (N := 12) rfl inlX4 (by decide) mw_47_15 (fun _ _ _ _ h9 => h9) hf (by decide) rfl dX5_addPairs_9  (fun v3 hf => ?_)
    refine z_sI hf dX5_addPairs_12  (fun d4 hf => ?_)
    refine z_aload_n 0 dX5_addPairs_13 rfl rfl ?_
    refine z_gP (ci := 5) (k := 4) (C := RX5) (T := TX5) (N := 13) rfl inlX5 (by decide) mw_5_19 (fun _ _ _ _ h9 => h9) hf (by decide) rfl dX5_addPairs_14  (fun v5 hf => ?_)
    refine z_iconst 4 4 dX5_addPairs_17 (by decide) ?_
    refine z_aload_n 0 dX5_addPairs_18 rfl rfl ?_
    refine z_gP (ci := 5) (k := 2) (C := RX5) (T := TX5) (N := 13) rfl inlX5 (by decide) mw_6_6 (fun _ _ _ _ h9 => h9) hf (by decide) rfl dX5_addPairs_19  (fun v6 hf => ?_)
    refine z_gI (ci := 4) (k := 11) (C := RX4) (T := TX4) (N := 12) rfl inlX4 (by decide) mw_47_16 (fun _ _ _ _ h9 => h9) hf (by decide) rfl dX5_addPairs_22  (fun v7 hf => ?_)
    refine z_sI hf dX5_addPairs_25  (fun d8 hf => ?_)
    refine z_iconst 0 0 dX5_addPairs_26 (by decide) ?_
    refine z_istore_n [(1, .int (0 : Int32)), (0, .ref l0)] dX5_addPairs_27 rfl (by decide) rfl ?_
    refine z_lv [(0, .ref l0), (1, .int (0 : Int32))] [1, 0] rfl ?_
    exact zb_X5_addPairs_28 hE N _ _ _ hf
  · cases hf
set_option maxRecDepth 20000 in
theorem zb_X5_leave_121 {N : Nat} {sh : Sh} {r : Int32 × Dt} {E : EV} (hE : TG E (some (.int r.1)) (sh, r.2))   {d : Dt} (hf : f_X5_leave_121 N sh  d = some r) : Z E yX5_leave cX5_leave 4 (some .int) 4 (sh, d) 121 [] [] := by
  unfold f_X5_leave_121 at hf
  refine z_iconst (-1) (-1) dX5_leave_121 (by decide) ?_
  cases hf
  exact z_ireturn hE rfl dX5_leave_122
set_option maxRecDepth 20000 in
theorem zb_X5_leave_115 {N : Nat} {sh : Sh} {k2 : Nat → Int32 → Dt → Option (Int32 × Dt)} {r : Int32 × Dt} {E : EV} (hE : TG E (some (.int r.1)) (sh, r.2)) (hk2 : ∀ (l0 : Nat) (l1 : Int32) (d : Dt), k2 l0 l1 d = some r → Z E yX5_leave cX5_leave 4 (some .int) 4 (sh, d) 2 [(0, .ref l0), (1, .int l1)] []) {l0 : Nat} {l1 : Int32} {d : Dt} (hf : f_X5_leave_115 N sh k2 l0 l1 d = some r) : Z E yX5_leave cX5_leave 4 (some .int) 4 (sh, d) 115 [(0, .ref l0), (1, .int l1)] [] := by
  unfold f_X5_leave_115 at hf
  refine z_iinc [(1, .int (l1 + 1)), (0, .ref l0)] 1 (l1 + 1) dX5_leave_115 rfl rfl (by decide) rfl ?_
  refine z_goto 2 dX5_leave_118 (by decide) ?_
  refine z_lv [(0, .ref l0), (1, .int (l1 + 1))] [1, 0] rfl ?_
  exact hk2 _ _ _ hf
set_option maxRecDepth 20000 in
theorem zb_X5_leave_103 {N : Nat} {sh : Sh} {r : Int32 × Dt} {E : EV} (hE : TG E (some (.int r.1)) (sh, r.2))  {l1 : Int32} {d : Dt} (hf : f_X5_leave_103 N sh l1 d = some r) : Z E yX5_leave cX5_leave 4 (some .int) 4 (sh, d) 103 [(1, .int l1)] [] := by
  unfold f_X5_leave_103 at hf
  refine z_iload_n 0 dX5_leave_103 rfl rfl ?_
  cases hf
  exact z_ireturn hE rfl dX5_leave_104
set_option maxRecDepth 20000 in
theorem zb_X5_leave_90 {N : Nat} {sh : Sh} {k2 : Nat → Int32 → Dt → Option (Int32 × Dt)} {r : Int32 × Dt} {E : EV} (hE : TG E (some (.int r.1)) (sh, r.2)) (hk2 : ∀ (l0 : Nat) (l1 : Int32) (d : Dt), k2 l0 l1 d = some r → Z E yX5_leave cX5_leave 4 (some .int) 4 (sh, d) 2 [(0, .ref l0), (1, .int l1)] []) {l0 : Nat} {l1 : Int32} {t0 : Int64} {t1 : Nat} {t2 : Int32} {d : Dt} (hf : f_X5_leave_90 N sh k2 l0 l1 t0 t1 t2 d = some r) : Z E yX5_leave cX5_leave 4 (some .int) 4 (sh, d) 90 [(0, .ref l0), (1, .int l1)] [.int t2, .ref t1, .long t0] := by
  unfold f_X5_leave_90 at hf
  obtain ⟨v21, ev21, hf⟩ := ob hf
  refine z_cVl (ci := 5) (T := TX5) (N := 13) (As := [.int t2]) (rest := [.long t0]) (zm_X5_reachedFrom ev21).2 (zm_X5_reachedFrom ev21).1 (by decide) rfl (Or.inl rfl) mw_45_2 mw_45_3 mw_45_4 mw_2_7 mw_45_5 yk_X5_reachedFrom (by decide) (by decide) rfl (Nat.le_of_ble_eq_true rfl) rfl dX5_leave_90 ?_
  refine z_ldc2 mw_45_1 dX5_leave_93 ?_
  refine z_lxor dX5_leave_96 ?_
  refine z_land dX5_leave_97 ?_
  refine z_lconst 0 0 dX5_leave_98 (by decide) ?_
  refine z_lcmp dX5_leave_99 ?_
  refine z_if_ne 105 hf dX5_leave_100 (by decide) (fun hf => ?_) (fun hf => ?_)
  · refine z_aload_n 0 dX5_leave_105 rfl rfl ?_
    refine z_gP (ci := 5) (k := 9) (C := RX5) (T := TX5) (N := 13) rfl inlX5 (by decide) mw_6_0 (fun _ _ _ _ h9 => h9) hf (by decide) rfl dX5_leave_106  (fun v22 hf => ?_)
    refine z_iload_n 1 dX5_leave_109 rfl rfl ?_
    refine z_dup2_11 dX5_leave_110 rfl rfl ?_
    refine z_aI hf dX5_leave_111  (fun v23 hf => ?_)
    refine z_iconst 1 1 dX5_leave_112 (by decide) ?_
    refine z_iadd dX5_leave_113 ?_
    refine z_sI hf dX5_leave_114  (fun d24 hf => ?_)
    exact zb_X5_leave_115 hE hk2 hf
  · refine z_lv [(1, .int l1)] [1] rfl ?_
    exact zb_X5_leave_103 hE hf
set_option maxRecDepth 20000 in
theorem zb_X5_leave_45 {N : Nat} {sh : Sh} {k2 : Nat → Int32 → Dt → Option (Int32 × Dt)} {r : Int32 × Dt} {E : EV} (hE : TG E (some (.int r.1)) (sh, r.2)) (hk2 : ∀ (l0 : Nat) (l1 : Int32) (d : Dt), k2 l0 l1 d = some r → Z E yX5_leave cX5_leave 4 (some .int) 4 (sh, d) 2 [(0, .ref l0), (1, .int l1)] []) {l0 : Nat} {l1 : Int32} {d : Dt} (hf : f_X5_leave_45 N sh k2 l0 l1 d = some r) : Z E yX5_leave cX5_leave 4 (some .int) 4 (sh, d) 45 [(0, .ref l0), (1, .int l1)] [] := by
  unfold f_X5_leave_45 at hf
  refine z_aload_n 0 dX5_leave_45 rfl rfl ?_
  refine z_gP (ci := 5) (k := 9) (C := RX5) (T := TX5) (N := 13) rfl inlX5 (by decide) mw_6_0 (fun _ _ _ _ h9 => h9) hf (by decide) rfl dX5_leave_46  (fun v10 hf => ?_)
  refine z_iload_n 1 dX5_leave_49 rfl rfl ?_
  refine z_dup2_11 dX5_leave_50 rfl rfl ?_
  refine z_aI hf dX5_leave_51  (fun v11 hf => ?_)
  refine z_iconst 1 1 dX5_leave_52 (by decide) ?_
  refine z_isub dX5_leave_53 ?_
  refine z_sI hf dX5_leave_54  (fun d12 hf => ?_)
  refine z_aload_n 0 dX5_leave_55 rfl rfl ?_
  obtain ⟨v13, ev13, hf⟩ := ob hf
  refine z_cVl (ci := 5) (T := TX5) (N := 13) (As := []) (rest := []) (zm_X5_lookAtLeft ev13).2 (zm_X5_lookAtLeft ev13).1 (by decide) rfl (Or.inl rfl) mw_43_22 mw_43_23 mw_44_0 mw_2_7 mw_44_1 yk_X5_lookAtLeft (by decide) (by decide) rfl (Nat.le_of_ble_eq_true rfl) rfl dX5_leave_56 ?_
  refine z_lstore_n [(2, .long v13.1), (0, .ref l0), (1, .int l1)] dX5_leave_59 rfl (by decide) rfl ?_
  refine z_lload_n 0 dX5_leave_60 rfl rfl ?_
  refine z_aload_n 1 dX5_leave_61 rfl rfl ?_
  refine z_aload_n 1 dX5_leave_62 rfl rfl ?_
  refine z_gP (ci := 5) (k := 6) (C := RX5) (T := TX5) (N := 13) rfl inlX5 (by decide) mw_5_21 (fun _ _ _ _ h9 => h9) hf (by decide) rfl dX5_leave_63  (fun v14 hf => ?_)
  refine z_iload_n 2 dX5_leave_66 rfl rfl ?_
  refine z_aI hf dX5_leave_67  (fun v15 hf => ?_)
  refine z_aload_n 1 dX5_leave_68 rfl rfl ?_
  refine z_gI (ci := 5) (k := 12) (C := RX5) (T := TX5) (N := 13) rfl inlX5 (by decide) mw_6_3 (fun _ _ _ _ h9 => h9) hf (by decide) rfl dX5_leave_69  (fun v16 hf => ?_)
  refine z_icmp_ne 84 hf dX5_leave_72 (by decide) (fun hf => ?_) (fun hf => ?_)
  · refine z_aload_n 1 dX5_leave_84 rfl rfl ?_
    refine z_gP (ci := 5) (k := 6) (C := RX5) (T := TX5) (N := 13) rfl inlX5 (by decide) mw_5_21 (fun _ _ _ _ h9 => h9) hf (by decide) rfl dX5_leave_85  (fun v17 hf => ?_)
    refine z_iload_n 2 dX5_leave_88 rfl rfl ?_
    refine z_aI hf dX5_leave_89  (fun v18 hf => ?_)
    refine z_lv [(0, .ref l0), (1, .int l1)] [1, 2] rfl ?_
    exact zb_X5_leave_90 hE hk2 hf
  · refine z_aload_n 1 dX5_leave_75 rfl rfl ?_
    refine z_gP (ci := 5) (k := 7) (C := RX5) (T := TX5) (N := 13) rfl inlX5 (by decide) mw_5_22 (fun _ _ _ _ h9 => h9) hf (by decide) rfl dX5_leave_76  (fun v19 hf => ?_)
    refine z_iload_n 2 dX5_leave_79 rfl rfl ?_
    refine z_aI hf dX5_leave_80  (fun v20 hf => ?_)
    refine z_goto 90 dX5_leave_81 (by decide) ?_
    refine z_lv [(0, .ref l0), (1, .int l1)] [1, 2] rfl ?_
    exact zb_X5_leave_90 hE hk2 hf
set_option maxRecDepth 20000 in
theorem zg_X5_leave_2 {N : Nat} {sh : Sh} {r : Int32 × Dt} {k2 : Nat → Int32 → Dt → Option (Int32 × Dt)} {E : EV} (hE : TG E (some (.int r.1)) (sh, r.2))  (hk2 : ∀ (l0 : Nat) (l1 : Int32) (d : Dt), k2 l0 l1 d = some r → Z E yX5_leave cX5_leave 4 (some .int) 4 (sh, d) 2 [(0, .ref l0), (1, .int l1)] []) {l0 : Nat} {l1 : Int32} {d : Dt} (hf : g_X5_leave_2 N sh k2 l0 l1 d = some r) : Z E yX5_leave cX5_leave 4 (some .int) 4 (sh, d) 2 [(0, .ref l0), (1, .int l1)] [] := by
  unfold g_X5_leave_2 at hf
  refine z_iload_n 1 dX5_leave_2 rfl rfl ?_
  refine z_aload_n 0 dX5_leave_3 rfl rfl ?_
  refine z_gI (ci := 5) (k := 8) (C := RX5) (T := TX5) (N := 13) rfl inlX5 (by decide) mw_5_23 (fun _ _ _ _ h9 => h9) hf (by decide) rfl dX5_leave_4  (fun v1 hf => ?_)
  refine z_icmp_ge 121 hf dX5_leave_7 (by decide) (fun hf => ?_) (fun hf => ?_)
  · refine z_lv [] [] rfl ?_
    exact zb_X5_leave_121 hE hf
  · refine z_aload_n 0 dX5_leave_10 rfl rfl ?_
    refine z_gP (ci := 5) (k := 9) (C := RX5) (T := TX5) (N := 13) rfl inlX5 (by decide) mw_6_0 (fun _ _ _ _ h9 => h9) hf (by decide) rfl dX5_leave_11  (fun v2 hf => ?_)
    refine z_iload_n 1 dX5_leave_14 rfl rfl ?_
    refine z_aI hf dX5_leave_15  (fun v3 hf => ?_)
    refine z_if_le 115 hf dX5_leave_16 (by decide) (fun hf => ?_) (fun hf => ?_)
    · exact zb_X5_leave_115 hE hk2 hf
    · refine z_aload_n 0 dX5_leave_19 rfl rfl ?_
      refine z_gP (ci := 5) (k := 6) (C := RX5) (T := TX5) (N := 13) rfl inlX5 (by decide) mw_5_21 (fun _ _ _ _ h9 => h9) hf (by decide) rfl dX5_leave_20  (fun v4 hf => ?_)
      refine z_iload_n 1 dX5_leave_23 rfl rfl ?_
      refine z_aI hf dX5_leave_24  (fun v5 hf => ?_)
      refine z_aload_n 0 dX5_leave_25 rfl rfl ?_
      refine z_gI (ci := 5) (k := 12) (C := RX5) (T := TX5) (N := 13) rfl inlX5 (by decide) mw_6_3 (fun _ _ _ _ h9 => h9) hf (by decide) rfl dX5_leave_26  (fun v6 hf => ?_)
      refine z_icmp_eq 45 hf dX5_leave_29 (by decide) (fun hf => ?_) (fun hf => ?_)
      · exact zb_X5_leave_45 hE hk2 hf
      · refine z_aload_n 0 dX5_leave_32 rfl rfl ?_
        refine z_gP (ci := 5) (k := 7) (C := RX5) (T := TX5) (N := 13) rfl inlX5 (by decide) mw_5_22 (fun _ _ _ _ h9 => h9) hf (by decide) rfl dX5_leave_33  (fun v7 hf => ?_)
        refine z_iload_n 1 dX5_leave_36 rfl rfl ?_
        refine z_aI hf dX5_leave_37  (fun v8 hf => ?_)
        refine z_aload_n 0 dX5_leave_38 rfl rfl ?_
        refine z_gI (ci := 5) (k := 12) (C := RX5) (T := TX5) (N := 13) rfl inlX5 (by decide) mw_6_3 (fun _ _ _ _ h9 => h9) hf (by decide) rfl dX5_leave_39  (fun v9 hf => ?_)
        refine z_icmp_ne 115 hf dX5_leave_42 (by decide) (fun hf => ?_) (fun hf => ?_)
        · exact zb_X5_leave_115 hE hk2 hf
        · exact zb_X5_leave_45 hE hk2 hf
set_option maxRecDepth 20000 in
theorem zb_X5_leave_2 {N : Nat} {sh : Sh} {r : Int32 × Dt} {E : EV} (hE : TG E (some (.int r.1)) (sh, r.2))  : ∀ (n : Nat) (l0 : Nat) (l1 : Int32) (d : Dt), f_X5_leave_2 N sh n l0 l1 d = some r → Z E yX5_leave cX5_leave 4 (some .int) 4 (sh, d) 2 [(0, .ref l0), (1, .int l1)] [] := by
  intro n
  induction n with
  | zero => intro l0 l1 d hf; cases hf
  | succ n ih => intro l0 l1 d hf; exact zg_X5_leave_2 hE ih hf
set_option maxRecDepth 20000 in
theorem zm_X5_leave {N : Nat} {sh : Sh} {d : Dt} {l0 : Nat} {r : Int32 × Dt} (hf : f_X5_leave N sh l0 d = some r) : isO sh l0 5 ∧ ∀ (l : Launch) (G : GG), Mt l G yX5_leave cX5_leave 4 (some .int) 4 [.ref l0] (sh, d) (some (.int r.1)) (sh, r.2) := by
  have hf0 := hf
  unfold f_X5_leave at hf
  refine ite_d hf (fun hO hf => ?_) (fun _ hf => ?_)
  · refine ⟨hO, fun l G => mt_of (Or.inl (by decide)) (Nat.le_of_ble_eq_true rfl) Le.rf (fun E hE => ?_)⟩
    show Z E yX5_leave cX5_leave 4 (some .int) 4 (sh, d) 0 [(0, .ref l0)] []
    refine z_iconst 0 0 dX5_leave_0 (by decide) ?_
    refine z_istore_n [(1, .int (0 : Int32)), (0, .ref l0)] dX5_leave_1 rfl (by decide) rfl ?_
    refine z_lv [(0, .ref l0), (1, .int (0 : Int32))] [1, 0] rfl ?_
    exact zb_X5_leave_2 hE N _ _ _ hf
  · cases hf
set_option maxRecDepth 20000 in
theorem le_X5_driveAll_44 {N : Nat} {r : AS}   {s : AS} (hf : f_X5_driveAll_44 N  s = some r) : Le s r := by
  unfold f_X5_driveAll_44 at hf
  cases hf
  exact Le.rf
set_option maxRecDepth 20000 in
theorem zb_X5_driveAll_44 {N : Nat} {r : AS} {E : EV} (hE : TG E none r)    {s : AS} (hf : f_X5_driveAll_44 N  s = some r) : Z E yX5_driveAll cX5_driveAll 4 none 5 s 44 [] [] := by
  unfold f_X5_driveAll_44 at hf
  cases hf
  exact z_return hE rfl dX5_driveAll_44
set_option maxRecDepth 20000 in
theorem le_X5_driveAll_37 {N : Nat} {k2 : Nat → Int32 → Int32 → AS → Option AS} {r : AS} (hk2 : ∀ (l0 : Nat) (l1 : Int32) (l2 : Int32) (s : AS), k2 l0 l1 l2 s = some r → Le s r) {l0 : Nat} {l1 : Int32} {l2 : Int32} {t0 : Int32} {s : AS} (hf : f_X5_driveAll_37 N k2 l0 l1 l2 t0 s = some r) : Le s r := by
  unfold f_X5_driveAll_37 at hf
  exact Le.via (hk2 _ _ _ _ hf) rfl
set_option maxRecDepth 20000 in
theorem zb_X5_driveAll_37 {N : Nat} {k2 : Nat → Int32 → Int32 → AS → Option AS} {r : AS} {E : EV} (hE : TG E none r) (hk2 : ∀ (l0 : Nat) (l1 : Int32) (l2 : Int32) (s : AS), k2 l0 l1 l2 s = some r → Z E yX5_driveAll cX5_driveAll 4 none 5 s 2 [(0, .ref l0), (1, .int l1), (2, .int l2)] []) (hq2 : ∀ (l0 : Nat) (l1 : Int32) (l2 : Int32) (s : AS), k2 l0 l1 l2 s = some r → Le s r) {l0 : Nat} {l1 : Int32} {l2 : Int32} {t0 : Int32} {s : AS} (hf : f_X5_driveAll_37 N k2 l0 l1 l2 t0 s = some r) : Z E yX5_driveAll cX5_driveAll 4 none 5 s 37 [(0, .ref l0), (1, .int l1), (2, .int l2)] [.int t0] := by
  unfold f_X5_driveAll_37 at hf
  refine z_pop dX5_driveAll_37 rfl ?_
  refine z_iinc [(2, .int (l2 + 1)), (0, .ref l0), (1, .int l1)] 2 (l2 + 1) dX5_driveAll_38 rfl rfl (by decide) rfl ?_
  refine z_goto 2 dX5_driveAll_41 (by decide) ?_
  refine z_lv [(0, .ref l0), (1, .int l1), (2, .int (l2 + 1))] [1, 2, 0] rfl ?_
  exact hk2 _ _ _ _ hf
set_option maxRecDepth 20000 in
theorem le_X5_driveAll_34 {N : Nat} {k2 : Nat → Int32 → Int32 → AS → Option AS} {r : AS} (hk2 : ∀ (l0 : Nat) (l1 : Int32) (l2 : Int32) (s : AS), k2 l0 l1 l2 s = some r → Le s r) {l0 : Nat} {l1 : Int32} {l2 : Int32} {t0 : Nat} {t1 : Int32} {t2 : Int32} {s : AS} (hf : f_X5_driveAll_34 N k2 l0 l1 l2 t0 t1 t2 s = some r) : Le s r := by
  unfold f_X5_driveAll_34 at hf
  obtain ⟨v4, ev4, hf⟩ := ob hf
  refine Le.of (t := (s.1, s.2)) rfl ((lm_X5_addDrive ev4).tr ?_)
  exact Le.via (le_X5_driveAll_37 hk2 hf) rfl
set_option maxRecDepth 20000 in
theorem zb_X5_driveAll_34 {N : Nat} {k2 : Nat → Int32 → Int32 → AS → Option AS} {r : AS} {E : EV} (hE : TG E none r) (hk2 : ∀ (l0 : Nat) (l1 : Int32) (l2 : Int32) (s : AS), k2 l0 l1 l2 s = some r → Z E yX5_driveAll cX5_driveAll 4 none 5 s 2 [(0, .ref l0), (1, .int l1), (2, .int l2)] []) (hq2 : ∀ (l0 : Nat) (l1 : Int32) (l2 : Int32) (s : AS), k2 l0 l1 l2 s = some r → Le s r) {l0 : Nat} {l1 : Int32} {l2 : Int32} {t0 : Nat} {t1 : Int32} {t2 : Int32} {s : AS} (hf : f_X5_driveAll_34 N k2 l0 l1 l2 t0 t1 t2 s = some r) : Z E yX5_driveAll cX5_driveAll 4 none 5 s 34 [(0, .ref l0), (1, .int l1), (2, .int l2)] [.int t2, .int t1, .ref t0] := by
  unfold f_X5_driveAll_34 at hf
  obtain ⟨v4, ev4, hf⟩ := ob hf
  refine z_cVi (ci := 5) (T := TX5) (N := 13) (As := [.int t1, .int t2]) (rest := []) (zm_X5_addDrive ev4).2 (zm_X5_addDrive ev4).1 (by decide) rfl (Or.inr (tg_le hE (le_X5_driveAll_37 hq2 hf))) mw_44_15 mw_44_16 mw_44_17 mw_2_7 mw_44_18 yk_X5_addDrive (by decide) (by decide) rfl (Nat.le_of_ble_eq_true rfl) rfl dX5_driveAll_34 ?_
  exact zb_X5_driveAll_37 hE hk2 hq2 hf
set_option maxRecDepth 20000 in
theorem le_X5_driveAll_17 {N : Nat} {r : AS}   {s : AS} (hf : f_X5_driveAll_17 N  s = some r) : Le s r := by
  unfold f_X5_driveAll_17 at hf
  cases hf
  exact Le.rf
set_option maxRecDepth 20000 in
theorem zb_X5_driveAll_17 {N : Nat} {r : AS} {E : EV} (hE : TG E none r)    {s : AS} (hf : f_X5_driveAll_17 N  s = some r) : Z E yX5_driveAll cX5_driveAll 4 none 5 s 17 [] [] := by
  unfold f_X5_driveAll_17 at hf
  cases hf
  exact z_return hE rfl dX5_driveAll_17
set_option maxRecDepth 20000 in
theorem lg_X5_driveAll_2 {N : Nat} {r : AS} {k2 : Nat → Int32 → Int32 → AS → Option AS}  (hk2 : ∀ (l0 : Nat) (l1 : Int32) (l2 : Int32) (s : AS), k2 l0 l1 l2 s = some r → Le s r) {l0 : Nat} {l1 : Int32} {l2 : Int32} {s : AS} (hf : g_X5_driveAll_2 N k2 l0 l1 l2 s = some r) : Le s r := by
  unfold g_X5_driveAll_2 at hf
  refine ite_c hf (fun hf => ?_) (fun hf => ?_)
  · exact Le.via (le_X5_driveAll_44 hf) rfl
  · obtain ⟨v1, -, hf⟩ := ob hf
    refine ite_c hf (fun hf => ?_) (fun hf => ?_)
    · obtain ⟨v2, -, hf⟩ := ob hf
      obtain ⟨v3, -, hf⟩ := ob hf
      refine ite_c hf (fun hf => ?_) (fun hf => ?_)
      · exact Le.via (le_X5_driveAll_34 hk2 hf) rfl
      · exact Le.via (le_X5_driveAll_34 hk2 hf) rfl
    · exact Le.via (le_X5_driveAll_17 hf) rfl
set_option maxRecDepth 20000 in
theorem le_X5_driveAll_2 {N : Nat} {r : AS}  : ∀ (n : Nat) (l0 : Nat) (l1 : Int32) (l2 : Int32) (s : AS), f_X5_driveAll_2 N n l0 l1 l2 s = some r → Le s r := by
  intro n
  induction n with
  | zero => intro l0 l1 l2 s hf; cases hf
  | succ n ih => intro l0 l1 l2 s hf; exact lg_X5_driveAll_2 ih hf
set_option maxRecDepth 20000 in
theorem zg_X5_driveAll_2 {N : Nat} {r : AS} {k2 : Nat → Int32 → Int32 → AS → Option AS} {E : EV} (hE : TG E none r)   (hk2 : ∀ (l0 : Nat) (l1 : Int32) (l2 : Int32) (s : AS), k2 l0 l1 l2 s = some r → Z E yX5_driveAll cX5_driveAll 4 none 5 s 2 [(0, .ref l0), (1, .int l1), (2, .int l2)] []) (hq2 : ∀ (l0 : Nat) (l1 : Int32) (l2 : Int32) (s : AS), k2 l0 l1 l2 s = some r → Le s r) {l0 : Nat} {l1 : Int32} {l2 : Int32} {s : AS} (hf : g_X5_driveAll_2 N k2 l0 l1 l2 s = some r) : Z E yX5_driveAll cX5_driveAll 4 none 5 s 2 [(0, .ref l0), (1, .int l1), (2, .int l2)] [] := by
  unfold g_X5_driveAll_2 at hf
  refine z_iload_n 2 dX5_driveAll_2 rfl rfl ?_
  refine z_iload_n 1 dX5_driveAll_3 rfl rfl ?_
  refine z_icmp_ge 44 hf dX5_driveAll_4 (by decide) (fun hf => ?_) (fun hf => ?_)
  · refine z_lv [] [] rfl ?_
    exact zb_X5_driveAll_44 hE hf
  · refine z_aload_n 0 dX5_driveAll_7 rfl rfl ?_
    obtain ⟨v1, ev1, hf⟩ := ob hf
    refine z_cVi (ci := 5) (T := TX5) (N := 13) (As := []) (rest := []) (zm_X5_leave ev1).2 (zm_X5_leave ev1).1 (by decide) rfl (Or.inl rfl) mw_47_23 mw_48_0 mw_48_1 mw_2_7 mw_48_2 yk_X5_leave (by decide) (by decide) rfl (Nat.le_of_ble_eq_true rfl) rfl dX5_driveAll_8 ?_
    refine z_istore_n [(3, .int v1.1), (0, .ref l0), (1, .int l1), (2, .int l2)] dX5_driveAll_11 rfl (by decide) rfl ?_
    refine z_iload_n 0 dX5_driveAll_12 rfl rfl ?_
    refine z_iconst (-1) (-1) dX5_driveAll_13 (by decide) ?_
    refine z_icmp_ne 18 hf dX5_driveAll_14 (by decide) (fun hf => ?_) (fun hf => ?_)
    · refine z_aload_n 1 dX5_driveAll_18 rfl rfl ?_
      refine z_iload_n 0 dX5_driveAll_19 rfl rfl ?_
      refine z_aload_n 1 dX5_driveAll_20 rfl rfl ?_
      refine z_gP (ci := 5) (k := 10) (C := RX5) (T := TX5) (N := 13) rfl inlX5 (by decide) mw_6_1 (fun _ _ _ _ h9 => h9) hf (by decide) rfl dX5_driveAll_21  (fun v2 hf => ?_)
      refine z_iload_n 0 dX5_driveAll_24 rfl rfl ?_
      refine z_aI hf dX5_driveAll_25  (fun v3 hf => ?_)
      refine z_if_le 33 hf dX5_driveAll_26 (by decide) (fun hf => ?_) (fun hf => ?_)
      · refine z_iconst 0 0 dX5_driveAll_33 (by decide) ?_
        refine z_lv [(0, .ref l0), (1, .int l1), (2, .int l2)] [1, 2, 3] rfl ?_
        exact zb_X5_driveAll_34 hE hk2 hq2 hf
      · refine z_iconst 1 1 dX5_driveAll_29 (by decide) ?_
        refine z_goto 34 dX5_driveAll_30 (by decide) ?_
        refine z_lv [(0, .ref l0), (1, .int l1), (2, .int l2)] [1, 2, 3] rfl ?_
        exact zb_X5_driveAll_34 hE hk2 hq2 hf
    · refine z_lv [] [] rfl ?_
      exact zb_X5_driveAll_17 hE hf
set_option maxRecDepth 20000 in
theorem zb_X5_driveAll_2 {N : Nat} {r : AS} {E : EV} (hE : TG E none r)   : ∀ (n : Nat) (l0 : Nat) (l1 : Int32) (l2 : Int32) (s : AS), f_X5_driveAll_2 N n l0 l1 l2 s = some r → Z E yX5_driveAll cX5_driveAll 4 none 5 s 2 [(0, .ref l0), (1, .int l1), (2, .int l2)] [] := by
  intro n
  induction n with
  | zero => intro l0 l1 l2 s hf; cases hf
  | succ n ih => intro l0 l1 l2 s hf; exact zg_X5_driveAll_2 hE ih (le_X5_driveAll_2 n) hf
set_option maxRecDepth 20000 in
theorem lm_X5_driveAll {N : Nat} {s : AS} {l0 : Nat} {l1 : Int32} {r : AS} (hf : f_X5_driveAll N l0 l1 s = some r) : Le s r := by
  unfold f_X5_driveAll at hf
  refine ite_c hf (fun hf => ?_) (fun hf => ?_)
  · skip
    exact Le.via (le_X5_driveAll_2 N _ _ _ _ hf) rfl
  · cases hf
set_option maxRecDepth 20000 in
theorem zm_X5_driveAll {N : Nat} {s : AS} {l0 : Nat} {l1 : Int32} {r : AS} (hf : f_X5_driveAll N l0 l1 s = some r) : isO s.1 l0 5 ∧ ∀ (l : Launch) (G : GG), Mt l G yX5_driveAll cX5_driveAll 4 none 5 [.ref l0, .int l1] s none r := by
  have hf0 := hf
  unfold f_X5_driveAll at hf
  refine ite_d hf (fun hO hf => ?_) (fun _ hf => ?_)
  · refine ⟨hO, fun l G => mt_of (Or.inl (by decide)) (Nat.le_of_ble_eq_true rfl) (lm_X5_driveAll hf0) (fun E hE => ?_)⟩
    show Z E yX5_driveAll cX5_driveAll 4 none 5 s 0 [(0, .ref l0), (1, .int l1)] []
    refine z_iconst 0 0 dX5_driveAll_0 (by decide) ?_
    refine z_istore_n [(2, .int (0 : Int32)), (0, .ref l0), (1, .int l1)] dX5_driveAll_1 rfl (by decide) rfl ?_
    refine z_lv [(0, .ref l0), (1, .int l1), (2, .int (0 : Int32))] [1, 2, 0] rfl ?_
    exact zb_X5_driveAll_2 hE N _ _ _ _ hf
  · cases hf
set_option maxRecDepth 20000 in
theorem le_X5_planBothWays_102 {N : Nat} {r : Int32 × AS}   {s : AS} (hf : f_X5_planBothWays_102 N  s = some r) : Le s r.2 := by
  unfold f_X5_planBothWays_102 at hf
  cases hf
  exact Le.rf
set_option maxRecDepth 20000 in
theorem zb_X5_planBothWays_102 {N : Nat} {r : Int32 × AS} {E : EV} (hE : TG E (some (.int r.1)) r.2)    {s : AS} (hf : f_X5_planBothWays_102 N  s = some r) : Z E yX5_planBothWays cX5_planBothWays 5 (some .int) 6 s 102 [] [] := by
  unfold f_X5_planBothWays_102 at hf
  refine z_iconst 0 0 dX5_planBothWays_102 (by decide) ?_
  cases hf
  exact z_ireturn hE rfl dX5_planBothWays_103
set_option maxRecDepth 20000 in
theorem le_X5_planBothWays_87 {N : Nat} {r : Int32 × AS}  {l0 : Nat} {l3 : Int32} {s : AS} (hf : f_X5_planBothWays_87 N l0 l3 s = some r) : Le s r.2 := by
  unfold f_X5_planBothWays_87 at hf
  refine ite_c hf (fun hf => ?_) (fun hf => ?_)
  · obtain ⟨v15, ev15, hf⟩ := ob hf
    refine Le.of (t := (s.1, s.2)) rfl ((lm_X5_driveAll ev15).tr ?_)
    exact Le.via (le_X5_planBothWays_102 hf) rfl
  · cases hf
    exact Le.rf
set_option maxRecDepth 20000 in
theorem zb_X5_planBothWays_87 {N : Nat} {r : Int32 × AS} {E : EV} (hE : TG E (some (.int r.1)) r.2)   {l0 : Nat} {l3 : Int32} {s : AS} (hf : f_X5_planBothWays_87 N l0 l3 s = some r) : Z E yX5_planBothWays cX5_planBothWays 5 (some .int) 6 s 87 [(0, .ref l0), (3, .int l3)] [] := by
  unfold f_X5_planBothWays_87 at hf
  refine z_iload_n 1 dX5_planBothWays_87 rfl rfl ?_
  refine z_sipush 2000 2000 dX5_planBothWays_88 (by decide) ?_
  refine z_icmp_le 97 hf dX5_planBothWays_91 (by decide) (fun hf => ?_) (fun hf => ?_)
  · refine z_aload_n 0 dX5_planBothWays_97 rfl rfl ?_
    refine z_iload_n 1 dX5_planBothWays_98 rfl rfl ?_
    obtain ⟨v15, ev15, hf⟩ := ob hf
    refine z_cVv (ci := 5) (T := TX5) (N := 13) (As := [.int l3]) (rest := []) (zm_X5_driveAll ev15).2 (zm_X5_driveAll ev15).1 (by decide) rfl (Or.inr (tg_le hE (le_X5_planBothWays_102 hf))) mw_47_19 mw_47_20 mw_47_21 mw_2_7 mw_47_22 yk_X5_driveAll (by decide) (by decide) rfl (Nat.le_of_ble_eq_true rfl) rfl dX5_planBothWays_99 ?_
    refine z_lv [] [] rfl ?_
    exact zb_X5_planBothWays_102 hE hf
  · refine z_bipush (-3) (-3) dX5_planBothWays_94 (by decide) ?_
    cases hf
    exact z_ireturn hE rfl dX5_planBothWays_96
set_option maxRecDepth 20000 in
theorem lg_X5_planBothWays_62 {N : Nat} {r : Int32 × AS} {k62 : Nat → Int32 → Int32 → AS → Option (Int32 × AS)}  (hk62 : ∀ (l0 : Nat) (l3 : Int32) (l4 : Int32) (s : AS), k62 l0 l3 l4 s = some r → Le s r.2) {l0 : Nat} {l3 : Int32} {l4 : Int32} {s : AS} (hf : g_X5_planBothWays_62 N k62 l0 l3 l4 s = some r) : Le s r.2 := by
  unfold g_X5_planBothWays_62 at hf
  obtain ⟨v12, -, hf⟩ := ob hf
  refine ite_c hf (fun hf => ?_) (fun hf => ?_)
  · exact Le.via (le_X5_planBothWays_87 hf) rfl
  · obtain ⟨v13, -, hf⟩ := ob hf
    obtain ⟨v14, -, hf⟩ := ob hf
    exact Le.via (hk62 _ _ _ _ hf) rfl
set_option maxRecDepth 20000 in
theorem le_X5_planBothWays_62 {N : Nat} {r : Int32 × AS}  : ∀ (n : Nat) (l0 : Nat) (l3 : Int32) (l4 : Int32) (s : AS), f_X5_planBothWays_62 N n l0 l3 l4 s = some r → Le s r.2 := by
  intro n
  induction n with
  | zero => intro l0 l3 l4 s hf; cases hf
  | succ n ih => intro l0 l3 l4 s hf; exact lg_X5_planBothWays_62 ih hf
set_option maxRecDepth 20000 in
theorem zg_X5_planBothWays_62 {N : Nat} {r : Int32 × AS} {k62 : Nat → Int32 → Int32 → AS → Option (Int32 × AS)} {E : EV} (hE : TG E (some (.int r.1)) r.2)   (hk62 : ∀ (l0 : Nat) (l3 : Int32) (l4 : Int32) (s : AS), k62 l0 l3 l4 s = some r → Z E yX5_planBothWays cX5_planBothWays 5 (some .int) 6 s 62 [(0, .ref l0), (3, .int l3), (4, .int l4)] []) (hq62 : ∀ (l0 : Nat) (l3 : Int32) (l4 : Int32) (s : AS), k62 l0 l3 l4 s = some r → Le s r.2) {l0 : Nat} {l3 : Int32} {l4 : Int32} {s : AS} (hf : g_X5_planBothWays_62 N k62 l0 l3 l4 s = some r) : Z E yX5_planBothWays cX5_planBothWays 5 (some .int) 6 s 62 [(0, .ref l0), (3, .int l3), (4, .int l4)] [] := by
  unfold g_X5_planBothWays_62 at hf
  refine z_iload 2 dX5_planBothWays_62 rfl ?_
  refine z_aload_n 0 dX5_planBothWays_64 rfl rfl ?_
  refine z_gI (ci := 5) (k := 8) (C := RX5) (T := TX5) (N := 13) rfl inlX5 (by decide) mw_5_23 (fun _ _ _ _ h9 => h9) hf (by decide) rfl dX5_planBothWays_65  (fun v12 hf => ?_)
  refine z_icmp_ge 87 hf dX5_planBothWays_68 (by decide) (fun hf => ?_) (fun hf => ?_)
  · refine z_lv [(0, .ref l0), (3, .int l3)] [0, 1] rfl ?_
    exact zb_X5_planBothWays_87 hE hf
  · refine z_iload_n 1 dX5_planBothWays_71 rfl rfl ?_
    refine z_aload_n 0 dX5_planBothWays_72 rfl rfl ?_
    refine z_gP (ci := 5) (k := 9) (C := RX5) (T := TX5) (N := 13) rfl inlX5 (by decide) mw_6_0 (fun _ _ _ _ h9 => h9) hf (by decide) rfl dX5_planBothWays_73  (fun v13 hf => ?_)
    refine z_iload 2 dX5_planBothWays_76 rfl ?_
    refine z_aI hf dX5_planBothWays_78  (fun v14 hf => ?_)
    refine z_iadd dX5_planBothWays_79 ?_
    refine z_istore_n [(3, .int (l3 + v14)), (0, .ref l0), (4, .int l4)] dX5_planBothWays_80 rfl (by decide) rfl ?_
    refine z_iinc [(4, .int (l4 + 1)), (3, .int (l3 + v14)), (0, .ref l0)] 2 (l4 + 1) dX5_planBothWays_81 rfl rfl (by decide) rfl ?_
    refine z_goto 62 dX5_planBothWays_84 (by decide) ?_
    refine z_lv [(0, .ref l0), (3, .int (l3 + v14)), (4, .int (l4 + 1))] [2, 1, 0] rfl ?_
    exact hk62 _ _ _ _ hf
set_option maxRecDepth 20000 in
theorem zb_X5_planBothWays_62 {N : Nat} {r : Int32 × AS} {E : EV} (hE : TG E (some (.int r.1)) r.2)   : ∀ (n : Nat) (l0 : Nat) (l3 : Int32) (l4 : Int32) (s : AS), f_X5_planBothWays_62 N n l0 l3 l4 s = some r → Z E yX5_planBothWays cX5_planBothWays 5 (some .int) 6 s 62 [(0, .ref l0), (3, .int l3), (4, .int l4)] [] := by
  intro n
  induction n with
  | zero => intro l0 l3 l4 s hf; cases hf
  | succ n ih => intro l0 l3 l4 s hf; exact zg_X5_planBothWays_62 hE ih (le_X5_planBothWays_62 n) hf
set_option maxRecDepth 20000 in
theorem le_X5_planBothWays_53 {N : Nat} {r : Int32 × AS}  {l0 : Nat} {s : AS} (hf : f_X5_planBothWays_53 N l0 s = some r) : Le s r.2 := by
  unfold f_X5_planBothWays_53 at hf
  obtain ⟨v11, -, hf⟩ := ob hf
  exact Le.via (le_X5_planBothWays_62 N _ _ _ _ hf) rfl
set_option maxRecDepth 20000 in
theorem zb_X5_planBothWays_53 {N : Nat} {r : Int32 × AS} {E : EV} (hE : TG E (some (.int r.1)) r.2)   {l0 : Nat} {s : AS} (hf : f_X5_planBothWays_53 N l0 s = some r) : Z E yX5_planBothWays cX5_planBothWays 5 (some .int) 6 s 53 [(0, .ref l0)] [] := by
  unfold f_X5_planBothWays_53 at hf
  refine z_aload_n 0 dX5_planBothWays_53 rfl rfl ?_
  obtain ⟨v11, ev11, hf⟩ := ob hf
  refine z_cVv (ci := 5) (T := TX5) (N := 13) (As := []) (rest := []) (zm_X5_addPairs ev11).2 (zm_X5_addPairs ev11).1 (by decide) rfl (Or.inl rfl) mw_47_11 mw_47_12 mw_47_13 mw_2_7 mw_47_14 yk_X5_addPairs (by decide) (by decide) rfl (Nat.le_of_ble_eq_true rfl) rfl dX5_planBothWays_54 ?_
  refine z_iconst 0 0 dX5_planBothWays_57 (by decide) ?_
  refine z_istore_n [(3, .int (0 : Int32)), (0, .ref l0)] dX5_planBothWays_58 rfl (by decide) rfl ?_
  refine z_iconst 0 0 dX5_planBothWays_59 (by decide) ?_
  refine z_istore [(4, .int (0 : Int32)), (3, .int (0 : Int32)), (0, .ref l0)] dX5_planBothWays_60 (by decide) rfl ?_
  refine z_lv [(0, .ref l0), (3, .int (0 : Int32)), (4, .int (0 : Int32))] [2, 1, 0] rfl ?_
  exact zb_X5_planBothWays_62 hE N _ _ _ _ hf
set_option maxRecDepth 20000 in
theorem lm_X5_planBothWays {N : Nat} {s : AS} {l0 : Nat} {r : Int32 × AS} (hf : f_X5_planBothWays N l0 s = some r) : Le s r.2 := by
  unfold f_X5_planBothWays at hf
  refine ite_c hf (fun hf => ?_) (fun hf => ?_)
  · skip
    obtain ⟨v1, -, hf⟩ := ob hf
    obtain ⟨v2, -, hf⟩ := ob hf
    obtain ⟨v3, -, hf⟩ := ob hf
    obtain ⟨v4, -, hf⟩ := ob hf
    obtain ⟨v5, -, hf⟩ := ob hf
    obtain ⟨v6, -, hf⟩ := ob hf
    obtain ⟨v7, -, hf⟩ := ob hf
    obtain ⟨v8, -, hf⟩ := ob hf
    refine ite_c hf (fun hf => ?_) (fun hf => ?_)
    · obtain ⟨v9, -, hf⟩ := ob hf
      obtain ⟨v10, ev10, hf⟩ := ob hf
      refine Le.of (t := (s.1, v8.2)) rfl ((lm_X4_pairUp ev10).tr ?_)
      exact Le.via (le_X5_planBothWays_53 hf) rfl
    · cases hf
      exact Le.rf
  · cases hf
set_option maxRecDepth 20000 in
theorem zm_X5_planBothWays {N : Nat} {s : AS} {l0 : Nat} {r : Int32 × AS} (hf : f_X5_planBothWays N l0 s = some r) : isO s.1 l0 5 ∧ ∀ (l : Launch) (G : GG), Mt l G yX5_planBothWays cX5_planBothWays 5 (some .int) 6 [.ref l0] s (some (.int r.1)) r.2 := by
  have hf0 := hf
  unfold f_X5_planBothWays at hf
  refine ite_d hf (fun hO hf => ?_) (fun _ hf => ?_)
  · refine ⟨hO, fun l G => mt_of (Or.inl (by decide)) (Nat.le_of_ble_eq_true rfl) (lm_X5_planBothWays hf0) (fun E hE => ?_)⟩
    show Z E yX5_planBothWays cX5_planBothWays 5 (some .int) 6 s 0 [(0, .ref l0)] []
    refine z_aload_n 0 dX5_planBothWays_0 rfl rfl ?_
    refine z_iconst 1 1 dX5_planBothWays_1 (by decide) ?_
    obtain ⟨v1, ev1, hf⟩ := ob hf
    refine z_cVv (ci := 5) (T := TX5) (N := 13) (As := [.int (1 : Int32)]) (rest := []) (zm_X5_begin ev1).2 (zm_X5_begin ev1).1 (by decide) rfl (Or.inl rfl) mw_43_12 mw_43_13 mw_43_14 mw_2_7 mw_43_15 yk_X5_begin (by decide) (by decide) rfl (Nat.le_of_ble_eq_true rfl) rfl dX5_planBothWays_2 ?_
    refine z_aload_n 0 dX5_planBothWays_5 rfl rfl ?_
    obtain ⟨v2, ev2, hf⟩ := ob hf
    refine z_cVl (ci := 5) (T := TX5) (N := 13) (As := []) (rest := []) (zm_X5_lookAtLeft ev2).2 (zm_X5_lookAtLeft ev2).1 (by decide) rfl (Or.inl rfl) mw_43_22 mw_43_23 mw_44_0 mw_2_7 mw_44_1 yk_X5_lookAtLeft (by decide) (by decide) rfl (Nat.le_of_ble_eq_true rfl) rfl dX5_planBothWays_6 ?_
    refine z_lstore_n [(1, .long v2.1), (0, .ref l0)] dX5_planBothWays_9 rfl (by decide) rfl ?_
    refine z_aload_n 1 dX5_planBothWays_10 rfl rfl ?_
    refine z_gP (ci := 5) (k := 1) (C := RX5) (T := TX5) (N := 13) rfl inlX5 (by decide) mw_6_5 (fun _ _ _ _ h9 => h9) hf (by decide) rfl dX5_planBothWays_11  (fun v3 hf => ?_)
    refine z_lload_n 0 dX5_planBothWays_14 rfl rfl ?_
    refine z_aload_n 1 dX5_planBothWays_15 rfl rfl ?_
    refine z_iconst 0 0 dX5_planBothWays_16 (by decide) ?_
    obtain ⟨v4, ev4, hf⟩ := ob hf
    refine z_cVl (ci := 5) (T := TX5) (N := 13) (As := [.int (0 : Int32)]) (rest := [.long v2.1, .ref v3]) (zm_X5_reachedFrom ev4).2 (zm_X5_reachedFrom ev4).1 (by decide) rfl (Or.inl rfl) mw_45_2 mw_45_3 mw_45_4 mw_2_7 mw_45_5 yk_X5_reachedFrom (by decide) (by decide) rfl (Nat.le_of_ble_eq_true rfl) rfl dX5_planBothWays_17 ?_
    refine z_ldc2 mw_45_1 dX5_planBothWays_20 ?_
    refine z_lxor dX5_planBothWays_23 ?_
    refine z_land dX5_planBothWays_24 ?_
    refine z_aload_n 1 dX5_planBothWays_25 rfl rfl ?_
    refine z_gP (ci := 5) (k := 2) (C := RX5) (T := TX5) (N := 13) rfl inlX5 (by decide) mw_6_6 (fun _ _ _ _ h9 => h9) hf (by decide) rfl dX5_planBothWays_26  (fun v5 hf => ?_)
    obtain ⟨v6, ev6, hf⟩ := ob hf
    refine z_cVl (ci := 4) (T := TX4) (N := 12) (As := []) (rest := [.long (v2.1 &&& (v4 ^^^ (-1 : Int64))), .ref v3]) (zm_X4_oddBits ev6).2 (zm_X4_oddBits ev6).1 (by decide) rfl (Or.inl rfl) mw_45_6 mw_39_14 mw_39_15 mw_2_3 mw_39_16 yk_X4_oddBits (by decide) (by decide) rfl (Nat.le_of_ble_eq_true rfl) rfl dX5_planBothWays_29 ?_
    refine z_lor dX5_planBothWays_32 ?_
    obtain ⟨v7, ev7, hf⟩ := ob hf
    refine z_cVv (ci := 10) (T := TX10) (N := 6) (As := [.long ((v2.1 &&& (v4 ^^^ (-1 : Int64))) ||| v6)]) (rest := []) (zm_X10_measureEach ev7).2 (zm_X10_measureEach ev7).1 (by decide) rfl (Or.inl rfl) mw_44_3 mw_15_21 mw_15_22 mw_1_23 mw_15_23 yk_X10_measureEach (by decide) (by decide) rfl (Nat.le_of_ble_eq_true rfl) rfl dX5_planBothWays_33 ?_
    refine z_aload_n 1 dX5_planBothWays_36 rfl rfl ?_
    obtain ⟨v8, ev8, hf⟩ := ob hf
    refine z_cVi (ci := 5) (T := TX5) (N := 13) (As := []) (rest := []) (zm_X5_joinAll ev8).2 (zm_X5_joinAll ev8).1 (by decide) rfl (Or.inl rfl) mw_45_7 mw_45_8 mw_45_9 mw_2_7 mw_45_10 yk_X5_joinAll (by decide) (by decide) rfl (Nat.le_of_ble_eq_true rfl) rfl dX5_planBothWays_37 ?_
    refine z_if_ne 46 hf dX5_planBothWays_40 (by decide) (fun hf => ?_) (fun hf => ?_)
    · refine z_aload_n 1 dX5_planBothWays_46 rfl rfl ?_
      refine z_gP (ci := 5) (k := 2) (C := RX5) (T := TX5) (N := 13) rfl inlX5 (by decide) mw_6_6 (fun _ _ _ _ h9 => h9) hf (by decide) rfl dX5_planBothWays_47  (fun v9 hf => ?_)
      obtain ⟨v10, ev10, hf⟩ := ob hf
      refine z_cVv (ci := 4) (T := TX4) (N := 12) (As := []) (rest := []) (zm_X4_pairUp ev10).2 (zm_X4_pairUp ev10).1 (by decide) rfl (Or.inr (tg_le hE (le_X5_planBothWays_53 hf))) mw_45_20 mw_45_21 mw_45_22 mw_2_3 mw_45_23 yk_X4_pairUp (by decide) (by decide) rfl (Nat.le_of_ble_eq_true rfl) rfl dX5_planBothWays_50 ?_
      refine z_lv [(0, .ref l0)] [1] rfl ?_
      exact zb_X5_planBothWays_53 hE hf
    · refine z_bipush (-8) (-8) dX5_planBothWays_43 (by decide) ?_
      cases hf
      exact z_ireturn hE rfl dX5_planBothWays_45
  · cases hf
set_option maxRecDepth 20000 in
theorem le_X5_handTo_24 {N : Nat} {r : AS}  {l0 : Nat} {l1 : Nat} {s : AS} (hf : f_X5_handTo_24 N l0 l1 s = some r) : Le s r := by
  unfold f_X5_handTo_24 at hf
  obtain ⟨v8, -, hf⟩ := ob hf
  obtain ⟨v9, -, hf⟩ := ob hf
  obtain ⟨d10, -, hf⟩ := ob hf
  obtain ⟨v11, -, hf⟩ := ob hf
  obtain ⟨v12, -, hf⟩ := ob hf
  obtain ⟨d13, -, hf⟩ := ob hf
  cases hf
  exact Le.rf
set_option maxRecDepth 20000 in
theorem zb_X5_handTo_24 {N : Nat} {r : AS} {E : EV} (hE : TG E none r)   {l0 : Nat} {l1 : Nat} {s : AS} (hf : f_X5_handTo_24 N l0 l1 s = some r) : Z E yX5_handTo cX5_handTo 2 none 4 s 24 [(0, .ref l0), (1, .ref l1)] [] := by
  unfold f_X5_handTo_24 at hf
  refine z_aload_n 0 dX5_handTo_24 rfl rfl ?_
  refine z_gP (ci := 5) (k := 4) (C := RX5) (T := TX5) (N := 13) rfl inlX5 (by decide) mw_5_19 (fun _ _ _ _ h9 => h9) hf (by decide) rfl dX5_handTo_25  (fun v8 hf => ?_)
  refine z_iconst 0 0 dX5_handTo_28 (by decide) ?_
  refine z_aload_n 1 dX5_handTo_29 rfl rfl ?_
  refine z_gP (ci := 1) (k := 5) (C := RX1) (T := TX1) (N := 8) rfl inlX1 (by decide) mw_48_8 (fun _ _ _ _ h9 => h9) hf (by decide) rfl dX5_handTo_30  (fun v9 hf => ?_)
  refine z_iconst 0 0 dX5_handTo_33 (by decide) ?_
  refine z_bipush 7 7 dX5_handTo_34 (by decide) ?_
  refine z_cpy hf mw_48_9 mw_8_16 mw_8_17 mw_8_18 (by decide) (Nat.le_of_ble_eq_true rfl) dX5_handTo_36 (fun d10 hf => ?_)
  refine z_aload_n 0 dX5_handTo_39 rfl rfl ?_
  refine z_gP (ci := 5) (k := 5) (C := RX5) (T := TX5) (N := 13) rfl inlX5 (by decide) mw_5_20 (fun _ _ _ _ h9 => h9) hf (by decide) rfl dX5_handTo_40  (fun v11 hf => ?_)
  refine z_iconst 0 0 dX5_handTo_43 (by decide) ?_
  refine z_aload_n 1 dX5_handTo_44 rfl rfl ?_
  refine z_gP (ci := 1) (k := 6) (C := RX1) (T := TX1) (N := 8) rfl inlX1 (by decide) mw_48_10 (fun _ _ _ _ h9 => h9) hf (by decide) rfl dX5_handTo_45  (fun v12 hf => ?_)
  refine z_iconst 0 0 dX5_handTo_48 (by decide) ?_
  refine z_bipush 60 60 dX5_handTo_49 (by decide) ?_
  refine z_cpy hf mw_48_9 mw_8_16 mw_8_17 mw_8_18 (by decide) (Nat.le_of_ble_eq_true rfl) dX5_handTo_51 (fun d13 hf => ?_)
  cases hf
  exact z_return hE rfl dX5_handTo_54
set_option maxRecDepth 20000 in
theorem lm_X5_handTo {N : Nat} {s : AS} {l0 : Nat} {l1 : Nat} {r : AS} (hf : f_X5_handTo N l0 l1 s = some r) : Le s r := by
  unfold f_X5_handTo at hf
  refine ite_c hf (fun hf => ?_) (fun hf => ?_)
  · skip
    obtain ⟨v1, -, hf⟩ := ob hf
    obtain ⟨v2, -, hf⟩ := ob hf
    obtain ⟨v3, -, hf⟩ := ob hf
    obtain ⟨d4, -, hf⟩ := ob hf
    obtain ⟨v5, -, hf⟩ := ob hf
    obtain ⟨v6, -, hf⟩ := ob hf
    obtain ⟨v7, ev7, hf⟩ := ob hf
    refine Le.of (t := (s.1, d4)) rfl ((lm_X8_become ev7).tr ?_)
    exact Le.via (le_X5_handTo_24 hf) rfl
  · cases hf
set_option maxRecDepth 20000 in
theorem zm_X5_handTo {N : Nat} {s : AS} {l0 : Nat} {l1 : Nat} {r : AS} (hf : f_X5_handTo N l0 l1 s = some r) : isO s.1 l0 5 ∧ ∀ (l : Launch) (G : GG), Mt l G yX5_handTo cX5_handTo 2 none 4 [.ref l0, .ref l1] s none r := by
  have hf0 := hf
  unfold f_X5_handTo at hf
  refine ite_d hf (fun hO hf => ?_) (fun _ hf => ?_)
  · refine ⟨hO, fun l G => mt_of (Or.inl (by decide)) (Nat.le_of_ble_eq_true rfl) (lm_X5_handTo hf0) (fun E hE => ?_)⟩
    show Z E yX5_handTo cX5_handTo 2 none 4 s 0 [(0, .ref l0), (1, .ref l1)] []
    refine z_aload_n 0 dX5_handTo_0 rfl rfl ?_
    refine z_gP (ci := 5) (k := 4) (C := RX5) (T := TX5) (N := 13) rfl inlX5 (by decide) mw_5_19 (fun _ _ _ _ h9 => h9) hf (by decide) rfl dX5_handTo_1  (fun v1 hf => ?_)
    refine z_iconst 0 0 dX5_handTo_4 (by decide) ?_
    refine z_aload_n 0 dX5_handTo_5 rfl rfl ?_
    refine z_gP (ci := 5) (k := 3) (C := RX5) (T := TX5) (N := 13) rfl inlX5 (by decide) mw_5_18 (fun _ _ _ _ h9 => h9) hf (by decide) rfl dX5_handTo_6  (fun v2 hf => ?_)
    refine z_gI (ci := 8) (k := 1) (C := RX8) (T := TX8) (N := 2) rfl inlX8 (by decide) mw_43_16 (fun _ _ _ _ h9 => h9) hf (by decide) rfl dX5_handTo_9  (fun v3 hf => ?_)
    refine z_sI hf dX5_handTo_12  (fun d4 hf => ?_)
    refine z_aload_n 1 dX5_handTo_13 rfl rfl ?_
    refine z_gP (ci := 1) (k := 4) (C := RX1) (T := TX1) (N := 8) rfl inlX1 (by decide) mw_48_7 (fun _ _ _ _ h9 => h9) hf (by decide) rfl dX5_handTo_14  (fun v5 hf => ?_)
    refine z_aload_n 0 dX5_handTo_17 rfl rfl ?_
    refine z_gP (ci := 5) (k := 3) (C := RX5) (T := TX5) (N := 13) rfl inlX5 (by decide) mw_5_18 (fun _ _ _ _ h9 => h9) hf (by decide) rfl dX5_handTo_18  (fun v6 hf => ?_)
    obtain ⟨v7, ev7, hf⟩ := ob hf
    refine z_cVv (ci := 8) (T := TX8) (N := 2) (As := [.ref v6]) (rest := []) (zm_X8_become ev7).2 (zm_X8_become ev7).1 (by decide) rfl (Or.inr (tg_le hE (le_X5_handTo_24 hf))) mw_48_11 mw_9_1 mw_9_2 mw_3_13 mw_9_3 yk_X8_become (by decide) (by decide) rfl (Nat.le_of_ble_eq_true rfl) rfl dX5_handTo_21 ?_
    exact zb_X5_handTo_24 hE hf
  · cases hf
set_option maxRecDepth 20000 in
theorem le_X11_round_83 {N : Nat} {r : Int32 × AS}  {l0 : Nat} {s : AS} (hf : f_X11_round_83 N l0 s = some r) : Le s r.2 := by
  unfold f_X11_round_83 at hf
  obtain ⟨v17, -, hf⟩ := ob hf
  obtain ⟨v18, -, hf⟩ := ob hf
  obtain ⟨v19, -, hf⟩ := ob hf
  obtain ⟨v20, -, hf⟩ := ob hf
  cases hf
  exact Le.rf
set_option maxRecDepth 20000 in
theorem zb_X11_round_83 {N : Nat} {r : Int32 × AS} {E : EV} (hE : TG E (some (.int r.1)) r.2)   {l0 : Nat} {s : AS} (hf : f_X11_round_83 N l0 s = some r) : Z E yX11_round cX11_round 3 (some .int) 7 s 83 [(0, .ref l0)] [] := by
  unfold f_X11_round_83 at hf
  refine z_aload_n 0 dX11_round_83 rfl rfl ?_
  refine z_aload_n 0 dX11_round_84 rfl rfl ?_
  refine z_gP (ci := 11) (k := 1) (C := RX11) (T := TX11) (N := 14) rfl inlX11 (by decide) mw_1_19 (fun _ _ _ _ h9 => h9) hf (by decide) rfl dX11_round_85  (fun v17 hf => ?_)
  refine z_gP (ci := 1) (k := 4) (C := RX1) (T := TX1) (N := 8) rfl inlX1 (by decide) mw_43_7 (fun _ _ _ _ h9 => h9) hf (by decide) rfl dX11_round_88  (fun v18 hf => ?_)
  refine z_gI (ci := 8) (k := 1) (C := RX8) (T := TX8) (N := 2) rfl inlX8 (by decide) mw_12_13 (fun _ _ _ _ h9 => h9) hf (by decide) rfl dX11_round_91  (fun v19 hf => ?_)
  obtain ⟨v20, ev20, hf⟩ := ob hf
  refine z_cVi (ci := 11) (T := TX11) (N := 14) (As := [.int v19]) (rest := []) (zm_X11_answer ev20).2 (zm_X11_answer ev20).1 (by decide) rfl (Or.inl rfl) mw_11_2 mw_11_3 mw_11_4 mw_1_2 mw_11_5 yk_X11_answer (by decide) (by decide) rfl (Nat.le_of_ble_eq_true rfl) rfl dX11_round_94 ?_
  cases hf
  exact z_ireturn hE rfl dX11_round_97
set_option maxRecDepth 20000 in
theorem lg_X11_round_55 {N : Nat} {r : Int32 × AS} {k55 : Nat → Int32 → AS → Option (Int32 × AS)}  (hk55 : ∀ (l0 : Nat) (l2 : Int32) (s : AS), k55 l0 l2 s = some r → Le s r.2) {l0 : Nat} {l2 : Int32} {s : AS} (hf : g_X11_round_55 N k55 l0 l2 s = some r) : Le s r.2 := by
  unfold g_X11_round_55 at hf
  obtain ⟨v12, -, hf⟩ := ob hf
  obtain ⟨v13, -, hf⟩ := ob hf
  obtain ⟨v14, -, hf⟩ := ob hf
  refine ite_c hf (fun hf => ?_) (fun hf => ?_)
  · exact Le.via (le_X11_round_83 hf) rfl
  · obtain ⟨v15, -, hf⟩ := ob hf
    obtain ⟨v16, -, hf⟩ := ob hf
    exact Le.via (hk55 _ _ _ hf) rfl
set_option maxRecDepth 20000 in
theorem le_X11_round_55 {N : Nat} {r : Int32 × AS}  : ∀ (n : Nat) (l0 : Nat) (l2 : Int32) (s : AS), f_X11_round_55 N n l0 l2 s = some r → Le s r.2 := by
  intro n
  induction n with
  | zero => intro l0 l2 s hf; cases hf
  | succ n ih => intro l0 l2 s hf; exact lg_X11_round_55 ih hf
set_option maxRecDepth 20000 in
theorem zg_X11_round_55 {N : Nat} {r : Int32 × AS} {k55 : Nat → Int32 → AS → Option (Int32 × AS)} {E : EV} (hE : TG E (some (.int r.1)) r.2)   (hk55 : ∀ (l0 : Nat) (l2 : Int32) (s : AS), k55 l0 l2 s = some r → Z E yX11_round cX11_round 3 (some .int) 7 s 55 [(0, .ref l0), (2, .int l2)] []) (hq55 : ∀ (l0 : Nat) (l2 : Int32) (s : AS), k55 l0 l2 s = some r → Le s r.2) {l0 : Nat} {l2 : Int32} {s : AS} (hf : g_X11_round_55 N k55 l0 l2 s = some r) : Z E yX11_round cX11_round 3 (some .int) 7 s 55 [(0, .ref l0), (2, .int l2)] [] := by
  unfold g_X11_round_55 at hf
  refine z_iload_n 1 dX11_round_55 rfl rfl ?_
  refine z_aload_n 0 dX11_round_56 rfl rfl ?_
  refine z_gP (ci := 11) (k := 1) (C := RX11) (T := TX11) (N := 14) rfl inlX11 (by decide) mw_1_19 (fun _ _ _ _ h9 => h9) hf (by decide) rfl dX11_round_57  (fun v12 hf => ?_)
  refine z_gP (ci := 1) (k := 3) (C := RX1) (T := TX1) (N := 8) rfl inlX1 (by decide) mw_29_16 (fun _ _ _ _ h9 => h9) hf (by decide) rfl dX11_round_60  (fun v13 hf => ?_)
  refine z_gI (ci := 8) (k := 1) (C := RX8) (T := TX8) (N := 2) rfl inlX8 (by decide) mw_12_13 (fun _ _ _ _ h9 => h9) hf (by decide) rfl dX11_round_63  (fun v14 hf => ?_)
  refine z_icmp_ge 83 hf dX11_round_66 (by decide) (fun hf => ?_) (fun hf => ?_)
  · refine z_lv [(0, .ref l0)] [0] rfl ?_
    exact zb_X11_round_83 hE hf
  · refine z_aload_n 0 dX11_round_69 rfl rfl ?_
    refine z_gP (ci := 11) (k := 1) (C := RX11) (T := TX11) (N := 14) rfl inlX11 (by decide) mw_1_19 (fun _ _ _ _ h9 => h9) hf (by decide) rfl dX11_round_70  (fun v15 hf => ?_)
    refine z_iload_n 1 dX11_round_73 rfl rfl ?_
    obtain ⟨v16, ev16, hf⟩ := ob hf
    refine z_cVv (ci := 1) (T := TX1) (N := 8) (As := [.int l2]) (rest := []) (zm_X1_dropPart ev16).2 (zm_X1_dropPart ev16).1 (by decide) rfl (Or.inl rfl) mw_48_12 mw_32_7 mw_32_8 mw_1_18 mw_32_9 yk_X1_dropPart (by decide) (by decide) rfl (Nat.le_of_ble_eq_true rfl) rfl dX11_round_74 ?_
    refine z_iinc [(2, .int (l2 + 1)), (0, .ref l0)] 1 (l2 + 1) dX11_round_77 rfl rfl (by decide) rfl ?_
    refine z_goto 55 dX11_round_80 (by decide) ?_
    refine z_lv [(0, .ref l0), (2, .int (l2 + 1))] [1, 0] rfl ?_
    exact hk55 _ _ _ hf
set_option maxRecDepth 20000 in
theorem zb_X11_round_55 {N : Nat} {r : Int32 × AS} {E : EV} (hE : TG E (some (.int r.1)) r.2)   : ∀ (n : Nat) (l0 : Nat) (l2 : Int32) (s : AS), f_X11_round_55 N n l0 l2 s = some r → Z E yX11_round cX11_round 3 (some .int) 7 s 55 [(0, .ref l0), (2, .int l2)] [] := by
  intro n
  induction n with
  | zero => intro l0 l2 s hf; cases hf
  | succ n ih => intro l0 l2 s hf; exact zg_X11_round_55 hE ih (le_X11_round_55 n) hf
set_option maxRecDepth 20000 in
theorem le_X11_round_53 {N : Nat} {r : Int32 × AS}  {l0 : Nat} {s : AS} (hf : f_X11_round_53 N l0 s = some r) : Le s r.2 := by
  unfold f_X11_round_53 at hf
  exact Le.via (le_X11_round_55 N _ _ _ hf) rfl
set_option maxRecDepth 20000 in
theorem zb_X11_round_53 {N : Nat} {r : Int32 × AS} {E : EV} (hE : TG E (some (.int r.1)) r.2)   {l0 : Nat} {s : AS} (hf : f_X11_round_53 N l0 s = some r) : Z E yX11_round cX11_round 3 (some .int) 7 s 53 [(0, .ref l0)] [] := by
  unfold f_X11_round_53 at hf
  refine z_iconst 0 0 dX11_round_53 (by decide) ?_
  refine z_istore_n [(2, .int (0 : Int32)), (0, .ref l0)] dX11_round_54 rfl (by decide) rfl ?_
  refine z_lv [(0, .ref l0), (2, .int (0 : Int32))] [1, 0] rfl ?_
  exact zb_X11_round_55 hE N _ _ _ hf
set_option maxRecDepth 20000 in
theorem le_X11_round_42 {N : Nat} {r : Int32 × AS}  {l0 : Nat} {s : AS} (hf : f_X11_round_42 N l0 s = some r) : Le s r.2 := by
  unfold f_X11_round_42 at hf
  obtain ⟨v9, -, hf⟩ := ob hf
  obtain ⟨v10, -, hf⟩ := ob hf
  obtain ⟨v11, ev11, hf⟩ := ob hf
  refine Le.of (t := (s.1, s.2)) rfl ((lm_X5_handTo ev11).tr ?_)
  exact Le.via (le_X11_round_53 hf) rfl
set_option maxRecDepth 20000 in
theorem zb_X11_round_42 {N : Nat} {r : Int32 × AS} {E : EV} (hE : TG E (some (.int r.1)) r.2)   {l0 : Nat} {s : AS} (hf : f_X11_round_42 N l0 s = some r) : Z E yX11_round cX11_round 3 (some .int) 7 s 42 [(0, .ref l0)] [] := by
  unfold f_X11_round_42 at hf
  refine z_aload_n 0 dX11_round_42 rfl rfl ?_
  refine z_gP (ci := 11) (k := 5) (C := RX11) (T := TX11) (N := 14) rfl inlX11 (by decide) mw_2_8 (fun _ _ _ _ h9 => h9) hf (by decide) rfl dX11_round_43  (fun v9 hf => ?_)
  refine z_aload_n 0 dX11_round_46 rfl rfl ?_
  refine z_gP (ci := 11) (k := 1) (C := RX11) (T := TX11) (N := 14) rfl inlX11 (by decide) mw_1_19 (fun _ _ _ _ h9 => h9) hf (by decide) rfl dX11_round_47  (fun v10 hf => ?_)
  obtain ⟨v11, ev11, hf⟩ := ob hf
  refine z_cVv (ci := 5) (T := TX5) (N := 13) (As := [.ref v10]) (rest := []) (zm_X5_handTo ev11).2 (zm_X5_handTo ev11).1 (by decide) rfl (Or.inr (tg_le hE (le_X11_round_53 hf))) mw_48_3 mw_48_4 mw_48_5 mw_2_7 mw_48_6 yk_X5_handTo (by decide) (by decide) rfl (Nat.le_of_ble_eq_true rfl) rfl dX11_round_50 ?_
  exact zb_X11_round_53 hE hf
set_option maxRecDepth 20000 in
theorem le_X11_round_27 {N : Nat} {r : Int32 × AS}  {l0 : Nat} {t0 : Int32} {s : AS} (hf : f_X11_round_27 N l0 t0 s = some r) : Le s r.2 := by
  unfold f_X11_round_27 at hf
  refine ite_c hf (fun hf => ?_) (fun hf => ?_)
  · obtain ⟨v7, ev7, hf⟩ := ob hf
    refine Le.of (t := (s.1, s.2)) rfl ((lm_X11_change ev7).tr ?_)
    exact Le.via (le_X11_round_42 hf) rfl
  · obtain ⟨v8, -, hf⟩ := ob hf
    cases hf
    exact Le.rf
set_option maxRecDepth 20000 in
theorem zb_X11_round_27 {N : Nat} {r : Int32 × AS} {E : EV} (hE : TG E (some (.int r.1)) r.2)   {l0 : Nat} {t0 : Int32} {s : AS} (hf : f_X11_round_27 N l0 t0 s = some r) : Z E yX11_round cX11_round 3 (some .int) 7 s 27 [(0, .ref l0)] [.int t0] := by
  unfold f_X11_round_27 at hf
  refine z_istore_n [(1, .int t0), (0, .ref l0)] dX11_round_27 rfl (by decide) rfl ?_
  refine z_iload_n 0 dX11_round_28 rfl rfl ?_
  refine z_if_eq 38 hf dX11_round_29 (by decide) (fun hf => ?_) (fun hf => ?_)
  · refine z_aload_n 1 dX11_round_38 rfl rfl ?_
    obtain ⟨v7, ev7, hf⟩ := ob hf
    refine z_cVv (ci := 11) (T := TX11) (N := 14) (As := []) (rest := []) (zm_X11_change ev7).2 (zm_X11_change ev7).1 (by decide) rfl (Or.inr (tg_le hE (le_X11_round_42 hf))) mw_8_7 mw_8_8 mw_8_9 mw_1_2 mw_8_10 yk_X11_change (by decide) (by decide) rfl (Nat.le_of_ble_eq_true rfl) rfl dX11_round_39 ?_
    refine z_lv [(0, .ref l0)] [1] rfl ?_
    exact zb_X11_round_42 hE hf
  · refine z_aload_n 1 dX11_round_32 rfl rfl ?_
    refine z_iload_n 0 dX11_round_33 rfl rfl ?_
    obtain ⟨v8, ev8, hf⟩ := ob hf
    refine z_cVi (ci := 11) (T := TX11) (N := 14) (As := [.int t0]) (rest := []) (zm_X11_refuse ev8).2 (zm_X11_refuse ev8).1 (by decide) rfl (Or.inl rfl) mw_7_22 mw_7_23 mw_8_0 mw_1_2 mw_8_1 yk_X11_refuse (by decide) (by decide) rfl (Nat.le_of_ble_eq_true rfl) rfl dX11_round_34 ?_
    cases hf
    exact z_ireturn hE rfl dX11_round_37
set_option maxRecDepth 20000 in
theorem le_X11_round_17 {N : Nat} {r : Int32 × AS}  {l0 : Nat} {t0 : Int32} {s : AS} (hf : f_X11_round_17 N l0 t0 s = some r) : Le s r.2 := by
  unfold f_X11_round_17 at hf
  exact Le.via (le_X11_round_27 hf) rfl
set_option maxRecDepth 20000 in
theorem zb_X11_round_17 {N : Nat} {r : Int32 × AS} {E : EV} (hE : TG E (some (.int r.1)) r.2)   {l0 : Nat} {t0 : Int32} {s : AS} (hf : f_X11_round_17 N l0 t0 s = some r) : Z E yX11_round cX11_round 3 (some .int) 7 s 17 [(0, .ref l0)] [.int t0] := by
  unfold f_X11_round_17 at hf
  refine z_goto 27 dX11_round_17 (by decide) ?_
  exact zb_X11_round_27 hE hf
set_option maxRecDepth 20000 in
theorem lm_X11_round {N : Nat} {s : AS} {l0 : Nat} {r : Int32 × AS} (hf : f_X11_round N l0 s = some r) : Le s r.2 := by
  unfold f_X11_round at hf
  refine ite_c hf (fun hf => ?_) (fun hf => ?_)
  · skip
    obtain ⟨v1, -, hf⟩ := ob hf
    obtain ⟨v2, -, hf⟩ := ob hf
    refine ite_c hf (fun hf => ?_) (fun hf => ?_)
    · obtain ⟨v3, -, hf⟩ := ob hf
      obtain ⟨v4, ev4, hf⟩ := ob hf
      refine Le.of (t := (s.1, s.2)) rfl ((lm_X5_planBothWays ev4).tr ?_)
      exact Le.via (le_X11_round_27 hf) rfl
    · obtain ⟨v5, -, hf⟩ := ob hf
      obtain ⟨v6, ev6, hf⟩ := ob hf
      refine Le.of (t := (s.1, s.2)) rfl ((lm_X5_planOneWays ev6).tr ?_)
      exact Le.via (le_X11_round_17 hf) rfl
  · cases hf
set_option maxRecDepth 20000 in
theorem zm_X11_round {N : Nat} {s : AS} {l0 : Nat} {r : Int32 × AS} (hf : f_X11_round N l0 s = some r) : isO s.1 l0 11 ∧ ∀ (l : Launch) (G : GG), Mt l G yX11_round cX11_round 3 (some .int) 7 [.ref l0] s (some (.int r.1)) r.2 := by
  have hf0 := hf
  unfold f_X11_round at hf
  refine ite_d hf (fun hO hf => ?_) (fun _ hf => ?_)
  · refine ⟨hO, fun l G => mt_of (Or.inl (by decide)) (Nat.le_of_ble_eq_true rfl) (lm_X11_round hf0) (fun E hE => ?_)⟩
    show Z E yX11_round cX11_round 3 (some .int) 7 s 0 [(0, .ref l0)] []
    refine z_aload_n 0 dX11_round_0 rfl rfl ?_
    refine z_gP (ci := 11) (k := 1) (C := RX11) (T := TX11) (N := 14) rfl inlX11 (by decide) mw_1_19 (fun _ _ _ _ h9 => h9) hf (by decide) rfl dX11_round_1  (fun v1 hf => ?_)
    obtain ⟨v2, ev2, hf⟩ := ob hf
    refine z_cVi (ci := 1) (T := TX1) (N := 8) (As := []) (rest := []) (zm_X1_hasOneWay ev2).2 (zm_X1_hasOneWay ev2).1 (by decide) rfl (Or.inl rfl) mw_41_1 mw_41_2 mw_41_3 mw_1_18 mw_41_4 yk_X1_hasOneWay (by decide) (by decide) rfl (Nat.le_of_ble_eq_true rfl) rfl dX11_round_4 ?_
    refine z_if_eq 20 hf dX11_round_7 (by decide) (fun hf => ?_) (fun hf => ?_)
    · refine z_aload_n 0 dX11_round_20 rfl rfl ?_
      refine z_gP (ci := 11) (k := 5) (C := RX11) (T := TX11) (N := 14) rfl inlX11 (by decide) mw_2_8 (fun _ _ _ _ h9 => h9) hf (by decide) rfl dX11_round_21  (fun v3 hf => ?_)
      obtain ⟨v4, ev4, hf⟩ := ob hf
      refine z_cVi (ci := 5) (T := TX5) (N := 13) (As := []) (rest := []) (zm_X5_planBothWays ev4).2 (zm_X5_planBothWays ev4).1 (by decide) rfl (Or.inr (tg_le hE (le_X11_round_27 hf))) mw_44_21 mw_44_22 mw_44_23 mw_2_7 mw_45_0 yk_X5_planBothWays (by decide) (by decide) rfl (Nat.le_of_ble_eq_true rfl) rfl dX11_round_24 ?_
      exact zb_X11_round_27 hE hf
    · refine z_aload_n 0 dX11_round_10 rfl rfl ?_
      refine z_gP (ci := 11) (k := 5) (C := RX11) (T := TX11) (N := 14) rfl inlX11 (by decide) mw_2_8 (fun _ _ _ _ h9 => h9) hf (by decide) rfl dX11_round_11  (fun v5 hf => ?_)
      obtain ⟨v6, ev6, hf⟩ := ob hf
      refine z_cVi (ci := 5) (T := TX5) (N := 13) (As := []) (rest := []) (zm_X5_planOneWays ev6).2 (zm_X5_planOneWays ev6).1 (by decide) rfl (Or.inr (tg_le hE (le_X11_round_17 hf))) mw_43_8 mw_43_9 mw_43_10 mw_2_7 mw_43_11 yk_X5_planOneWays (by decide) (by decide) rfl (Nat.le_of_ble_eq_true rfl) rfl dX11_round_14 ?_
      exact zb_X11_round_17 hE hf
  · cases hf
set_option maxRecDepth 20000 in
theorem zb_X1_lay_30 {N : Nat} {sh : Sh} {r : Dt} {E : EV} (hE : TG E none (sh, r))   {d : Dt} (hf : f_X1_lay_30 N sh  d = some r) : Z E yX1_lay cX1_lay 4 none 4 (sh, d) 30 [] [] := by
  unfold f_X1_lay_30 at hf
  cases hf
  exact z_return hE rfl dX1_lay_30
set_option maxRecDepth 20000 in
theorem zg_X1_lay_12 {N : Nat} {sh : Sh} {r : Dt} {k12 : Nat → Int32 → Int32 → Int32 → Dt → Option Dt} {E : EV} (hE : TG E none (sh, r))  (hk12 : ∀ (l0 : Nat) (l1 : Int32) (l2 : Int32) (l3 : Int32) (d : Dt), k12 l0 l1 l2 l3 d = some r → Z E yX1_lay cX1_lay 4 none 4 (sh, d) 12 [(0, .ref l0), (1, .int l1), (2, .int l2), (3, .int l3)] []) {l0 : Nat} {l1 : Int32} {l2 : Int32} {l3 : Int32} {d : Dt} (hf : g_X1_lay_12 N sh k12 l0 l1 l2 l3 d = some r) : Z E yX1_lay cX1_lay 4 none 4 (sh, d) 12 [(0, .ref l0), (1, .int l1), (2, .int l2), (3, .int l3)] [] := by
  unfold g_X1_lay_12 at hf
  refine z_iload_n 3 dX1_lay_12 rfl rfl ?_
  refine z_iload_n 2 dX1_lay_13 rfl rfl ?_
  refine z_icmp_ge 30 hf dX1_lay_14 (by decide) (fun hf => ?_) (fun hf => ?_)
  · refine z_lv [] [] rfl ?_
    exact zb_X1_lay_30 hE hf
  · refine z_aload_n 0 dX1_lay_17 rfl rfl ?_
    refine z_iload_n 1 dX1_lay_18 rfl rfl ?_
    refine z_iload_n 3 dX1_lay_19 rfl rfl ?_
    refine z_lconst 0 0 dX1_lay_20 (by decide) ?_
    obtain ⟨v3, ev3, hf⟩ := ob hf
    refine z_cVv (ci := 1) (T := TX1) (N := 8) (As := [.int l1, .int l3, .long (0 : Int64)]) (rest := []) (zm_X1_setCell ev3).2 (zm_X1_setCell ev3).1 (by decide) rfl (Or.inl rfl) mw_20_20 mw_20_21 mw_20_22 mw_1_18 mw_20_23 yk_X1_setCell (by decide) (by decide) rfl (Nat.le_of_ble_eq_true rfl) rfl dX1_lay_21 ?_
    refine z_iinc [(3, .int (l3 + 1)), (0, .ref l0), (1, .int l1), (2, .int l2)] 3 (l3 + 1) dX1_lay_24 rfl rfl (by decide) rfl ?_
    refine z_goto 12 dX1_lay_27 (by decide) ?_
    refine z_lv [(0, .ref l0), (1, .int l1), (2, .int l2), (3, .int (l3 + 1))] [1, 2, 3, 0] rfl ?_
    exact hk12 _ _ _ _ _ hf
set_option maxRecDepth 20000 in
theorem zb_X1_lay_12 {N : Nat} {sh : Sh} {r : Dt} {E : EV} (hE : TG E none (sh, r))  : ∀ (n : Nat) (l0 : Nat) (l1 : Int32) (l2 : Int32) (l3 : Int32) (d : Dt), f_X1_lay_12 N sh n l0 l1 l2 l3 d = some r → Z E yX1_lay cX1_lay 4 none 4 (sh, d) 12 [(0, .ref l0), (1, .int l1), (2, .int l2), (3, .int l3)] [] := by
  intro n
  induction n with
  | zero => intro l0 l1 l2 l3 d hf; cases hf
  | succ n ih => intro l0 l1 l2 l3 d hf; exact zg_X1_lay_12 hE ih hf
set_option maxRecDepth 20000 in
theorem zm_X1_lay {N : Nat} {sh : Sh} {d : Dt} {l0 : Nat} {l1 : Int32} {l2 : Int32} {r : Dt} (hf : f_X1_lay N sh l0 l1 l2 d = some r) : isO sh l0 1 ∧ ∀ (l : Launch) (G : GG), Mt l G yX1_lay cX1_lay 4 none 4 [.ref l0, .int l1, .int l2] (sh, d) none (sh, r) := by
  have hf0 := hf
  unfold f_X1_lay at hf
  refine ite_d hf (fun hO hf => ?_) (fun _ hf => ?_)
  · refine ⟨hO, fun l G => mt_of (Or.inl (by decide)) (Nat.le_of_ble_eq_true rfl) Le.rf (fun E hE => ?_)⟩
    show Z E yX1_lay cX1_lay 4 none 4 (sh, d) 0 [(0, .ref l0), (1, .int l1), (2, .int l2)] []
    refine z_aload_n 0 dX1_lay_0 rfl rfl ?_
    refine z_gP (ci := 1) (k := 2) (C := RX1) (T := TX1) (N := 8) rfl inlX1 (by decide) mw_3_15 (fun _ _ _ _ h9 => h9) hf (by decide) rfl dX1_lay_1  (fun v1 hf => ?_)
    refine z_iload_n 1 dX1_lay_4 rfl rfl ?_
    refine z_iconst 2 2 dX1_lay_5 (by decide) ?_
    refine z_iload_n 2 dX1_lay_6 rfl rfl ?_
    obtain ⟨v2, ev2, hf⟩ := ob hf
    refine z_cVv (ci := 8) (T := TX8) (N := 2) (As := [.int l1, .int (2 : Int32), .int l2]) (rest := []) (zm_X8_put ev2).2 (zm_X8_put ev2).1 (by decide) rfl (Or.inl rfl) mw_20_3 mw_12_23 mw_13_0 mw_3_13 mw_13_1 yk_X8_put (by decide) (by decide) rfl (Nat.le_of_ble_eq_true rfl) rfl dX1_lay_7 ?_
    refine z_iconst 0 0 dX1_lay_10 (by decide) ?_
    refine z_istore_n [(3, .int (0 : Int32)), (0, .ref l0), (1, .int l1), (2, .int l2)] dX1_lay_11 rfl (by decide) rfl ?_
    refine z_lv [(0, .ref l0), (1, .int l1), (2, .int l2), (3, .int (0 : Int32))] [1, 2, 3, 0] rfl ?_
    exact zb_X1_lay_12 hE N _ _ _ _ _ hf
  · cases hf
set_option maxRecDepth 20000 in
theorem le_X11_row_21 {N : Nat} {r : Int32 × AS}  {l0 : Nat} {s : AS} (hf : f_X11_row_21 N l0 s = some r) : Le s r.2 := by
  unfold f_X11_row_21 at hf
  obtain ⟨v6, -, hf⟩ := ob hf
  cases hf
  exact Le.rf
set_option maxRecDepth 20000 in
theorem zb_X11_row_21 {N : Nat} {r : Int32 × AS} {E : EV} (hE : TG E (some (.int r.1)) r.2)   {l0 : Nat} {s : AS} (hf : f_X11_row_21 N l0 s = some r) : Z E yX11_row cX11_row 3 (some .int) 6 s 21 [(0, .ref l0)] [] := by
  unfold f_X11_row_21 at hf
  refine z_aload_n 0 dX11_row_21 rfl rfl ?_
  refine z_bipush (-2) (-2) dX11_row_22 (by decide) ?_
  obtain ⟨v6, ev6, hf⟩ := ob hf
  refine z_cVi (ci := 11) (T := TX11) (N := 14) (As := [.int (-2 : Int32)]) (rest := []) (zm_X11_refuse ev6).2 (zm_X11_refuse ev6).1 (by decide) rfl (Or.inl rfl) mw_7_22 mw_7_23 mw_8_0 mw_1_2 mw_8_1 yk_X11_refuse (by decide) (by decide) rfl (Nat.le_of_ble_eq_true rfl) rfl dX11_row_24 ?_
  cases hf
  exact z_ireturn hE rfl dX11_row_27
set_option maxRecDepth 20000 in
theorem le_X11_row_43 {N : Nat} {r : Int32 × AS}  {l0 : Nat} {l1 : Int32} {l2 : Int32} {s : AS} (hf : f_X11_row_43 N l0 l1 l2 s = some r) : Le s r.2 := by
  unfold f_X11_row_43 at hf
  obtain ⟨v7, -, hf⟩ := ob hf
  obtain ⟨v8, -, hf⟩ := ob hf
  obtain ⟨v9, -, hf⟩ := ob hf
  cases hf
  exact Le.rf
set_option maxRecDepth 20000 in
theorem zb_X11_row_43 {N : Nat} {r : Int32 × AS} {E : EV} (hE : TG E (some (.int r.1)) r.2)   {l0 : Nat} {l1 : Int32} {l2 : Int32} {s : AS} (hf : f_X11_row_43 N l0 l1 l2 s = some r) : Z E yX11_row cX11_row 3 (some .int) 6 s 43 [(0, .ref l0), (1, .int l1), (2, .int l2)] [] := by
  unfold f_X11_row_43 at hf
  refine z_aload_n 0 dX11_row_43 rfl rfl ?_
  refine z_gP (ci := 11) (k := 1) (C := RX11) (T := TX11) (N := 14) rfl inlX11 (by decide) mw_1_19 (fun _ _ _ _ h9 => h9) hf (by decide) rfl dX11_row_44  (fun v7 hf => ?_)
  refine z_iload_n 1 dX11_row_47 rfl rfl ?_
  refine z_iload_n 2 dX11_row_48 rfl rfl ?_
  obtain ⟨v8, ev8, hf⟩ := ob hf
  refine z_cVv (ci := 1) (T := TX1) (N := 8) (As := [.int l1, .int l2]) (rest := []) (zm_X1_lay ev8).2 (zm_X1_lay ev8).1 (by decide) rfl (Or.inl rfl) mw_20_16 mw_20_17 mw_20_18 mw_1_18 mw_20_19 yk_X1_lay (by decide) (by decide) rfl (Nat.le_of_ble_eq_true rfl) rfl dX11_row_49 ?_
  refine z_aload_n 0 dX11_row_52 rfl rfl ?_
  refine z_iconst 1 1 dX11_row_53 (by decide) ?_
  obtain ⟨v9, ev9, hf⟩ := ob hf
  refine z_cVi (ci := 11) (T := TX11) (N := 14) (As := [.int (1 : Int32)]) (rest := []) (zm_X11_answer ev9).2 (zm_X11_answer ev9).1 (by decide) rfl (Or.inl rfl) mw_11_2 mw_11_3 mw_11_4 mw_1_2 mw_11_5 yk_X11_answer (by decide) (by decide) rfl (Nat.le_of_ble_eq_true rfl) rfl dX11_row_54 ?_
  cases hf
  exact z_ireturn hE rfl dX11_row_57
set_option maxRecDepth 20000 in
theorem lm_X11_row {N : Nat} {s : AS} {l0 : Nat} {l1 : Int32} {l2 : Int32} {r : Int32 × AS} (hf : f_X11_row N l0 l1 l2 s = some r) : Le s r.2 := by
  unfold f_X11_row at hf
  refine ite_c hf (fun hf => ?_) (fun hf => ?_)
  · skip
    obtain ⟨v1, -, hf⟩ := ob hf
    obtain ⟨v2, -, hf⟩ := ob hf
    obtain ⟨v3, -, hf⟩ := ob hf
    refine ite_c hf (fun hf => ?_) (fun hf => ?_)
    · exact Le.via (le_X11_row_21 hf) rfl
    · refine ite_c hf (fun hf => ?_) (fun hf => ?_)
      · refine ite_c hf (fun hf => ?_) (fun hf => ?_)
        · obtain ⟨v4, ev4, hf⟩ := ob hf
          refine Le.of (t := (s.1, s.2)) rfl ((lm_X11_change ev4).tr ?_)
          exact Le.via (le_X11_row_43 hf) rfl
        · obtain ⟨v5, -, hf⟩ := ob hf
          cases hf
          exact Le.rf
      · exact Le.via (le_X11_row_21 hf) rfl
  · cases hf
set_option maxRecDepth 20000 in
theorem zm_X11_row {N : Nat} {s : AS} {l0 : Nat} {l1 : Int32} {l2 : Int32} {r : Int32 × AS} (hf : f_X11_row N l0 l1 l2 s = some r) : isO s.1 l0 11 ∧ ∀ (l : Launch) (G : GG), Mt l G yX11_row cX11_row 3 (some .int) 6 [.ref l0, .int l1, .int l2] s (some (.int r.1)) r.2 := by
  have hf0 := hf
  unfold f_X11_row at hf
  refine ite_d hf (fun hO hf => ?_) (fun _ hf => ?_)
  · refine ⟨hO, fun l G => mt_of (Or.inl (by decide)) (Nat.le_of_ble_eq_true rfl) (lm_X11_row hf0) (fun E hE => ?_)⟩
    show Z E yX11_row cX11_row 3 (some .int) 6 s 0 [(0, .ref l0), (1, .int l1), (2, .int l2)] []
    refine z_aload_n 0 dX11_row_0 rfl rfl ?_
    refine z_gP (ci := 11) (k := 1) (C := RX11) (T := TX11) (N := 14) rfl inlX11 (by decide) mw_1_19 (fun _ _ _ _ h9 => h9) hf (by decide) rfl dX11_row_1  (fun v1 hf => ?_)
    refine z_gP (ci := 1) (k := 2) (C := RX1) (T := TX1) (N := 8) rfl inlX1 (by decide) mw_19_21 (fun _ _ _ _ h9 => h9) hf (by decide) rfl dX11_row_4  (fun v2 hf => ?_)
    refine z_iload_n 1 dX11_row_7 rfl rfl ?_
    obtain ⟨v3, ev3, hf⟩ := ob hf
    refine z_cVi (ci := 8) (T := TX8) (N := 2) (As := [.int l1]) (rest := []) (zm_X8_has ev3).2 (zm_X8_has ev3).1 (by decide) rfl (Or.inl rfl) mw_13_22 mw_13_23 mw_14_0 mw_3_13 mw_14_1 yk_X8_has (by decide) (by decide) rfl (Nat.le_of_ble_eq_true rfl) rfl dX11_row_8 ?_
    refine z_if_eq 21 hf dX11_row_11 (by decide) (fun hf => ?_) (fun hf => ?_)
    · refine z_lv [(0, .ref l0)] [0] rfl ?_
      exact zb_X11_row_21 hE hf
    · refine z_iload_n 2 dX11_row_14 rfl rfl ?_
      refine z_sipush 200 200 dX11_row_15 (by decide) ?_
      refine z_icmp_le 28 hf dX11_row_18 (by decide) (fun hf => ?_) (fun hf => ?_)
      · refine z_iload_n 2 dX11_row_28 rfl rfl ?_
        refine z_if_ge 39 hf dX11_row_29 (by decide) (fun hf => ?_) (fun hf => ?_)
        · refine z_aload_n 0 dX11_row_39 rfl rfl ?_
          obtain ⟨v4, ev4, hf⟩ := ob hf
          refine z_cVv (ci := 11) (T := TX11) (N := 14) (As := []) (rest := []) (zm_X11_change ev4).2 (zm_X11_change ev4).1 (by decide) rfl (Or.inr (tg_le hE (le_X11_row_43 hf))) mw_8_7 mw_8_8 mw_8_9 mw_1_2 mw_8_10 yk_X11_change (by decide) (by decide) rfl (Nat.le_of_ble_eq_true rfl) rfl dX11_row_40 ?_
          exact zb_X11_row_43 hE hf
        · refine z_aload_n 0 dX11_row_32 rfl rfl ?_
          refine z_bipush (-7) (-7) dX11_row_33 (by decide) ?_
          obtain ⟨v5, ev5, hf⟩ := ob hf
          refine z_cVi (ci := 11) (T := TX11) (N := 14) (As := [.int (-7 : Int32)]) (rest := []) (zm_X11_refuse ev5).2 (zm_X11_refuse ev5).1 (by decide) rfl (Or.inl rfl) mw_7_22 mw_7_23 mw_8_0 mw_1_2 mw_8_1 yk_X11_refuse (by decide) (by decide) rfl (Nat.le_of_ble_eq_true rfl) rfl dX11_row_35 ?_
          cases hf
          exact z_ireturn hE rfl dX11_row_38
      · refine z_lv [(0, .ref l0)] [0] rfl ?_
        exact zb_X11_row_21 hE hf
  · cases hf
set_option maxRecDepth 20000 in
theorem le_X11_salt_28 {N : Nat} {r : Int32 × AS}  {l0 : Nat} {s : AS} (hf : f_X11_salt_28 N l0 s = some r) : Le s r.2 := by
  unfold f_X11_salt_28 at hf
  obtain ⟨v15, -, hf⟩ := ob hf
  cases hf
  exact Le.rf
set_option maxRecDepth 20000 in
theorem zb_X11_salt_28 {N : Nat} {r : Int32 × AS} {E : EV} (hE : TG E (some (.int r.1)) r.2)   {l0 : Nat} {s : AS} (hf : f_X11_salt_28 N l0 s = some r) : Z E yX11_salt cX11_salt 3 (some .int) 6 s 28 [(0, .ref l0)] [] := by
  unfold f_X11_salt_28 at hf
  refine z_aload_n 0 dX11_salt_28 rfl rfl ?_
  refine z_bipush (-2) (-2) dX11_salt_29 (by decide) ?_
  obtain ⟨v15, ev15, hf⟩ := ob hf
  refine z_cVi (ci := 11) (T := TX11) (N := 14) (As := [.int (-2 : Int32)]) (rest := []) (zm_X11_refuse ev15).2 (zm_X11_refuse ev15).1 (by decide) rfl (Or.inl rfl) mw_7_22 mw_7_23 mw_8_0 mw_1_2 mw_8_1 yk_X11_refuse (by decide) (by decide) rfl (Nat.le_of_ble_eq_true rfl) rfl dX11_salt_31 ?_
  cases hf
  exact z_ireturn hE rfl dX11_salt_34
set_option maxRecDepth 20000 in
theorem le_X11_salt_76 {N : Nat} {r : Int32 × AS}  {l0 : Nat} {l2 : Int32} {s : AS} (hf : f_X11_salt_76 N l0 l2 s = some r) : Le s r.2 := by
  unfold f_X11_salt_76 at hf
  obtain ⟨v16, -, hf⟩ := ob hf
  obtain ⟨v17, -, hf⟩ := ob hf
  obtain ⟨v18, -, hf⟩ := ob hf
  obtain ⟨v19, -, hf⟩ := ob hf
  obtain ⟨v20, -, hf⟩ := ob hf
  obtain ⟨v21, -, hf⟩ := ob hf
  cases hf
  exact Le.rf
set_option maxRecDepth 20000 in
theorem zb_X11_salt_76 {N : Nat} {r : Int32 × AS} {E : EV} (hE : TG E (some (.int r.1)) r.2)   {l0 : Nat} {l2 : Int32} {s : AS} (hf : f_X11_salt_76 N l0 l2 s = some r) : Z E yX11_salt cX11_salt 3 (some .int) 6 s 76 [(0, .ref l0), (2, .int l2)] [] := by
  unfold f_X11_salt_76 at hf
  refine z_aload_n 0 dX11_salt_76 rfl rfl ?_
  refine z_gP (ci := 11) (k := 1) (C := RX11) (T := TX11) (N := 14) rfl inlX11 (by decide) mw_1_19 (fun _ _ _ _ h9 => h9) hf (by decide) rfl dX11_salt_77  (fun v16 hf => ?_)
  refine z_iload_n 1 dX11_salt_80 rfl rfl ?_
  refine z_bipush 50 50 dX11_salt_81 (by decide) ?_
  obtain ⟨v17, ev17, hf⟩ := ob hf
  refine z_cVv (ci := 1) (T := TX1) (N := 8) (As := [.int l2, .int (50 : Int32)]) (rest := []) (zm_X1_lessDrift ev17).2 (zm_X1_lessDrift ev17).1 (by decide) rfl (Or.inl rfl) mw_29_0 mw_29_1 mw_29_2 mw_1_18 mw_29_3 yk_X1_lessDrift (by decide) (by decide) rfl (Nat.le_of_ble_eq_true rfl) rfl dX11_salt_83 ?_
  refine z_aload_n 0 dX11_salt_86 rfl rfl ?_
  refine z_aload_n 0 dX11_salt_87 rfl rfl ?_
  refine z_gP (ci := 11) (k := 1) (C := RX11) (T := TX11) (N := 14) rfl inlX11 (by decide) mw_1_19 (fun _ _ _ _ h9 => h9) hf (by decide) rfl dX11_salt_88  (fun v18 hf => ?_)
  refine z_gP (ci := 1) (k := 1) (C := RX1) (T := TX1) (N := 8) rfl inlX1 (by decide) mw_12_12 (fun _ _ _ _ h9 => h9) hf (by decide) rfl dX11_salt_91  (fun v19 hf => ?_)
  refine z_iload_n 1 dX11_salt_94 rfl rfl ?_
  refine z_iconst 0 0 dX11_salt_95 (by decide) ?_
  obtain ⟨v20, ev20, hf⟩ := ob hf
  refine z_cVi (ci := 8) (T := TX8) (N := 2) (As := [.int l2, .int (0 : Int32)]) (rest := [.ref l0]) (zm_X8_get ev20).2 (zm_X8_get ev20).1 (by decide) rfl (Or.inl rfl) mw_14_2 mw_10_11 mw_10_12 mw_3_13 mw_10_13 yk_X8_get (by decide) (by decide) rfl (Nat.le_of_ble_eq_true rfl) rfl dX11_salt_96 ?_
  obtain ⟨v21, ev21, hf⟩ := ob hf
  refine z_cVi (ci := 11) (T := TX11) (N := 14) (As := [.int v20]) (rest := []) (zm_X11_answer ev21).2 (zm_X11_answer ev21).1 (by decide) rfl (Or.inl rfl) mw_11_2 mw_11_3 mw_11_4 mw_1_2 mw_11_5 yk_X11_answer (by decide) (by decide) rfl (Nat.le_of_ble_eq_true rfl) rfl dX11_salt_99 ?_
  cases hf
  exact z_ireturn hE rfl dX11_salt_102
set_option maxRecDepth 20000 in
theorem lm_X11_salt {N : Nat} {s : AS} {l0 : Nat} {l1 : Int32} {l2 : Int32} {r : Int32 × AS} (hf : f_X11_salt N l0 l1 l2 s = some r) : Le s r.2 := by
  unfold f_X11_salt at hf
  refine ite_c hf (fun hf => ?_) (fun hf => ?_)
  · skip
    obtain ⟨v1, -, hf⟩ := ob hf
    obtain ⟨v2, -, hf⟩ := ob hf
    obtain ⟨v3, -, hf⟩ := ob hf
    refine ite_c hf (fun hf => ?_) (fun hf => ?_)
    · exact Le.via (le_X11_salt_28 hf) rfl
    · obtain ⟨v4, -, hf⟩ := ob hf
      obtain ⟨v5, -, hf⟩ := ob hf
      obtain ⟨v6, -, hf⟩ := ob hf
      refine ite_c hf (fun hf => ?_) (fun hf => ?_)
      · obtain ⟨v7, -, hf⟩ := ob hf
        obtain ⟨v8, -, hf⟩ := ob hf
        refine ite_c hf (fun hf => ?_) (fun hf => ?_)
        · obtain ⟨v9, -, hf⟩ := ob hf
          obtain ⟨v10, -, hf⟩ := ob hf
          obtain ⟨v11, -, hf⟩ := ob hf
          refine ite_c hf (fun hf => ?_) (fun hf => ?_)
          · obtain ⟨v12, ev12, hf⟩ := ob hf
            refine Le.of (t := (s.1, s.2)) rfl ((lm_X11_change ev12).tr ?_)
            exact Le.via (le_X11_salt_76 hf) rfl
          · obtain ⟨v13, -, hf⟩ := ob hf
            cases hf
            exact Le.rf
        · obtain ⟨v14, -, hf⟩ := ob hf
          cases hf
          exact Le.rf
      · exact Le.via (le_X11_salt_28 hf) rfl
  · cases hf
set_option maxRecDepth 20000 in
theorem zm_X11_salt {N : Nat} {s : AS} {l0 : Nat} {l1 : Int32} {l2 : Int32} {r : Int32 × AS} (hf : f_X11_salt N l0 l1 l2 s = some r) : isO s.1 l0 11 ∧ ∀ (l : Launch) (G : GG), Mt l G yX11_salt cX11_salt 3 (some .int) 6 [.ref l0, .int l1, .int l2] s (some (.int r.1)) r.2 := by
  have hf0 := hf
  unfold f_X11_salt at hf
  refine ite_d hf (fun hO hf => ?_) (fun _ hf => ?_)
  · refine ⟨hO, fun l G => mt_of (Or.inl (by decide)) (Nat.le_of_ble_eq_true rfl) (lm_X11_salt hf0) (fun E hE => ?_)⟩
    show Z E yX11_salt cX11_salt 3 (some .int) 6 s 0 [(0, .ref l0), (1, .int l1), (2, .int l2)] []
    refine z_aload_n 0 dX11_salt_0 rfl rfl ?_
    refine z_gP (ci := 11) (k := 1) (C := RX11) (T := TX11) (N := 14) rfl inlX11 (by decide) mw_1_19 (fun _ _ _ _ h9 => h9) hf (by decide) rfl dX11_salt_1  (fun v1 hf => ?_)
    refine z_gP (ci := 1) (k := 3) (C := RX1) (T := TX1) (N := 8) rfl inlX1 (by decide) mw_29_16 (fun _ _ _ _ h9 => h9) hf (by decide) rfl dX11_salt_4  (fun v2 hf => ?_)
    refine z_iload_n 1 dX11_salt_7 rfl rfl ?_
    obtain ⟨v3, ev3, hf⟩ := ob hf
    refine z_cVi (ci := 8) (T := TX8) (N := 2) (As := [.int l1]) (rest := []) (zm_X8_has ev3).2 (zm_X8_has ev3).1 (by decide) rfl (Or.inl rfl) mw_13_22 mw_13_23 mw_14_0 mw_3_13 mw_14_1 yk_X8_has (by decide) (by decide) rfl (Nat.le_of_ble_eq_true rfl) rfl dX11_salt_8 ?_
    refine z_if_eq 28 hf dX11_salt_11 (by decide) (fun hf => ?_) (fun hf => ?_)
    · refine z_lv [(0, .ref l0)] [0] rfl ?_
      exact zb_X11_salt_28 hE hf
    · refine z_aload_n 0 dX11_salt_14 rfl rfl ?_
      refine z_gP (ci := 11) (k := 1) (C := RX11) (T := TX11) (N := 14) rfl inlX11 (by decide) mw_1_19 (fun _ _ _ _ h9 => h9) hf (by decide) rfl dX11_salt_15  (fun v4 hf => ?_)
      refine z_gP (ci := 1) (k := 1) (C := RX1) (T := TX1) (N := 8) rfl inlX1 (by decide) mw_12_12 (fun _ _ _ _ h9 => h9) hf (by decide) rfl dX11_salt_18  (fun v5 hf => ?_)
      refine z_iload_n 2 dX11_salt_21 rfl rfl ?_
      obtain ⟨v6, ev6, hf⟩ := ob hf
      refine z_cVi (ci := 8) (T := TX8) (N := 2) (As := [.int l2]) (rest := []) (zm_X8_has ev6).2 (zm_X8_has ev6).1 (by decide) rfl (Or.inl rfl) mw_13_22 mw_13_23 mw_14_0 mw_3_13 mw_14_1 yk_X8_has (by decide) (by decide) rfl (Nat.le_of_ble_eq_true rfl) rfl dX11_salt_22 ?_
      refine z_if_ne 35 hf dX11_salt_25 (by decide) (fun hf => ?_) (fun hf => ?_)
      · refine z_aload_n 0 dX11_salt_35 rfl rfl ?_
        refine z_gP (ci := 11) (k := 1) (C := RX11) (T := TX11) (N := 14) rfl inlX11 (by decide) mw_1_19 (fun _ _ _ _ h9 => h9) hf (by decide) rfl dX11_salt_36  (fun v7 hf => ?_)
        refine z_iload_n 1 dX11_salt_39 rfl rfl ?_
        obtain ⟨v8, ev8, hf⟩ := ob hf
        refine z_cVi (ci := 1) (T := TX1) (N := 8) (As := [.int l1]) (rest := []) (zm_X1_isOut ev8).2 (zm_X1_isOut ev8).1 (by decide) rfl (Or.inl rfl) mw_31_22 mw_31_23 mw_32_0 mw_1_18 mw_32_1 yk_X1_isOut (by decide) (by decide) rfl (Nat.le_of_ble_eq_true rfl) rfl dX11_salt_40 ?_
        refine z_if_eq 53 hf dX11_salt_43 (by decide) (fun hf => ?_) (fun hf => ?_)
        · refine z_aload_n 0 dX11_salt_53 rfl rfl ?_
          refine z_gP (ci := 11) (k := 6) (C := RX11) (T := TX11) (N := 14) rfl inlX11 (by decide) mw_2_10 (fun _ _ _ _ h9 => h9) hf (by decide) rfl dX11_salt_54  (fun v9 hf => ?_)
          refine z_iload_n 1 dX11_salt_57 rfl rfl ?_
          refine z_aP hf dX11_salt_58  (fun v10 hf => ?_)
          refine z_iOf7 hf mw_30_0 dX11_salt_59  (fun v11 hf => ?_)
          refine z_if_ne 72 hf dX11_salt_62 (by decide) (fun hf => ?_) (fun hf => ?_)
          · refine z_aload_n 0 dX11_salt_72 rfl rfl ?_
            obtain ⟨v12, ev12, hf⟩ := ob hf
            refine z_cVv (ci := 11) (T := TX11) (N := 14) (As := []) (rest := []) (zm_X11_change ev12).2 (zm_X11_change ev12).1 (by decide) rfl (Or.inr (tg_le hE (le_X11_salt_76 hf))) mw_8_7 mw_8_8 mw_8_9 mw_1_2 mw_8_10 yk_X11_change (by decide) (by decide) rfl (Nat.le_of_ble_eq_true rfl) rfl dX11_salt_73 ?_
            refine z_lv [(0, .ref l0), (2, .int l2)] [0, 2] rfl ?_
            exact zb_X11_salt_76 hE hf
          · refine z_aload_n 0 dX11_salt_65 rfl rfl ?_
            refine z_bipush (-6) (-6) dX11_salt_66 (by decide) ?_
            obtain ⟨v13, ev13, hf⟩ := ob hf
            refine z_cVi (ci := 11) (T := TX11) (N := 14) (As := [.int (-6 : Int32)]) (rest := []) (zm_X11_refuse ev13).2 (zm_X11_refuse ev13).1 (by decide) rfl (Or.inl rfl) mw_7_22 mw_7_23 mw_8_0 mw_1_2 mw_8_1 yk_X11_refuse (by decide) (by decide) rfl (Nat.le_of_ble_eq_true rfl) rfl dX11_salt_68 ?_
            cases hf
            exact z_ireturn hE rfl dX11_salt_71
        · refine z_aload_n 0 dX11_salt_46 rfl rfl ?_
          refine z_bipush (-4) (-4) dX11_salt_47 (by decide) ?_
          obtain ⟨v14, ev14, hf⟩ := ob hf
          refine z_cVi (ci := 11) (T := TX11) (N := 14) (As := [.int (-4 : Int32)]) (rest := []) (zm_X11_refuse ev14).2 (zm_X11_refuse ev14).1 (by decide) rfl (Or.inl rfl) mw_7_22 mw_7_23 mw_8_0 mw_1_2 mw_8_1 yk_X11_refuse (by decide) (by decide) rfl (Nat.le_of_ble_eq_true rfl) rfl dX11_salt_49 ?_
          cases hf
          exact z_ireturn hE rfl dX11_salt_52
      · refine z_lv [(0, .ref l0)] [0] rfl ?_
        exact zb_X11_salt_28 hE hf
  · cases hf
set_option maxRecDepth 20000 in
theorem le_X11_shut_15 {N : Nat} {r : Int32 × AS}  {t0 : Int32} {s : AS} (hf : f_X11_shut_15 N t0 s = some r) : Le s r.2 := by
  unfold f_X11_shut_15 at hf
  cases hf
  exact Le.rf
set_option maxRecDepth 20000 in
theorem zb_X11_shut_15 {N : Nat} {r : Int32 × AS} {E : EV} (hE : TG E (some (.int r.1)) r.2)   {t0 : Int32} {s : AS} (hf : f_X11_shut_15 N t0 s = some r) : Z E yX11_shut cX11_shut 3 (some .int) 7 s 15 [] [.int t0] := by
  unfold f_X11_shut_15 at hf
  cases hf
  exact z_ireturn hE rfl dX11_shut_15
set_option maxRecDepth 20000 in
theorem le_X11_shut_12 {N : Nat} {r : Int32 × AS}  {t0 : Nat} {t1 : Int32} {t2 : Int32} {t3 : Int32} {s : AS} (hf : f_X11_shut_12 N t0 t1 t2 t3 s = some r) : Le s r.2 := by
  unfold f_X11_shut_12 at hf
  obtain ⟨v1, ev1, hf⟩ := ob hf
  refine Le.of (t := (s.1, s.2)) rfl ((lm_X11_become ev1).tr ?_)
  exact Le.via (le_X11_shut_15 hf) rfl
set_option maxRecDepth 20000 in
theorem zb_X11_shut_12 {N : Nat} {r : Int32 × AS} {E : EV} (hE : TG E (some (.int r.1)) r.2)   {t0 : Nat} {t1 : Int32} {t2 : Int32} {t3 : Int32} {s : AS} (hf : f_X11_shut_12 N t0 t1 t2 t3 s = some r) : Z E yX11_shut cX11_shut 3 (some .int) 7 s 12 [] [.int t3, .int t2, .int t1, .ref t0] := by
  unfold f_X11_shut_12 at hf
  obtain ⟨v1, ev1, hf⟩ := ob hf
  refine z_cVi (ci := 11) (T := TX11) (N := 14) (As := [.int t1, .int t2, .int t3]) (rest := []) (zm_X11_become ev1).2 (zm_X11_become ev1).1 (by decide) rfl (Or.inr (tg_le hE (le_X11_shut_15 hf))) mw_13_18 mw_13_19 mw_13_20 mw_1_2 mw_13_21 yk_X11_become (by decide) (by decide) rfl (Nat.le_of_ble_eq_true rfl) rfl dX11_shut_12 ?_
  exact zb_X11_shut_15 hE hf
set_option maxRecDepth 20000 in
theorem lm_X11_shut {N : Nat} {s : AS} {l0 : Nat} {l1 : Int32} {l2 : Int32} {r : Int32 × AS} (hf : f_X11_shut N l0 l1 l2 s = some r) : Le s r.2 := by
  unfold f_X11_shut at hf
  refine ite_c hf (fun hf => ?_) (fun hf => ?_)
  · skip
    refine ite_c hf (fun hf => ?_) (fun hf => ?_)
    · exact Le.via (le_X11_shut_12 hf) rfl
    · exact Le.via (le_X11_shut_12 hf) rfl
  · cases hf
set_option maxRecDepth 20000 in
theorem zm_X11_shut {N : Nat} {s : AS} {l0 : Nat} {l1 : Int32} {l2 : Int32} {r : Int32 × AS} (hf : f_X11_shut N l0 l1 l2 s = some r) : isO s.1 l0 11 ∧ ∀ (l : Launch) (G : GG), Mt l G yX11_shut cX11_shut 3 (some .int) 7 [.ref l0, .int l1, .int l2] s (some (.int r.1)) r.2 := by
  have hf0 := hf
  unfold f_X11_shut at hf
  refine ite_d hf (fun hO hf => ?_) (fun _ hf => ?_)
  · refine ⟨hO, fun l G => mt_of (Or.inl (by decide)) (Nat.le_of_ble_eq_true rfl) (lm_X11_shut hf0) (fun E hE => ?_)⟩
    show Z E yX11_shut cX11_shut 3 (some .int) 7 s 0 [(0, .ref l0), (1, .int l1), (2, .int l2)] []
    refine z_aload_n 0 dX11_shut_0 rfl rfl ?_
    refine z_iload_n 1 dX11_shut_1 rfl rfl ?_
    refine z_iconst 4 4 dX11_shut_2 (by decide) ?_
    refine z_iload_n 2 dX11_shut_3 rfl rfl ?_
    refine z_if_eq 11 hf dX11_shut_4 (by decide) (fun hf => ?_) (fun hf => ?_)
    · refine z_iconst 0 0 dX11_shut_11 (by decide) ?_
      refine z_lv [] [] rfl ?_
      exact zb_X11_shut_12 hE hf
    · refine z_iconst 1 1 dX11_shut_7 (by decide) ?_
      refine z_goto 12 dX11_shut_8 (by decide) ?_
      refine z_lv [] [] rfl ?_
      exact zb_X11_shut_12 hE hf
  · cases hf
set_option maxRecDepth 20000 in
theorem le_X11_sides_9 {N : Nat} {r : Int32 × AS}  {l0 : Nat} {s : AS} (hf : f_X11_sides_9 N l0 s = some r) : Le s r.2 := by
  unfold f_X11_sides_9 at hf
  obtain ⟨v2, -, hf⟩ := ob hf
  cases hf
  exact Le.rf
set_option maxRecDepth 20000 in
theorem zb_X11_sides_9 {N : Nat} {r : Int32 × AS} {E : EV} (hE : TG E (some (.int r.1)) r.2)   {l0 : Nat} {s : AS} (hf : f_X11_sides_9 N l0 s = some r) : Z E yX11_sides cX11_sides 4 (some .int) 7 s 9 [(0, .ref l0)] [] := by
  unfold f_X11_sides_9 at hf
  refine z_aload_n 0 dX11_sides_9 rfl rfl ?_
  refine z_bipush (-2) (-2) dX11_sides_10 (by decide) ?_
  obtain ⟨v2, ev2, hf⟩ := ob hf
  refine z_cVi (ci := 11) (T := TX11) (N := 14) (As := [.int (-2 : Int32)]) (rest := []) (zm_X11_refuse ev2).2 (zm_X11_refuse ev2).1 (by decide) rfl (Or.inl rfl) mw_7_22 mw_7_23 mw_8_0 mw_1_2 mw_8_1 yk_X11_refuse (by decide) (by decide) rfl (Nat.le_of_ble_eq_true rfl) rfl dX11_sides_12 ?_
  cases hf
  exact z_ireturn hE rfl dX11_sides_15
set_option maxRecDepth 20000 in
theorem le_X11_sides_41 {N : Nat} {r : Int32 × AS}  {l3 : Int32} {s : AS} (hf : f_X11_sides_41 N l3 s = some r) : Le s r.2 := by
  unfold f_X11_sides_41 at hf
  cases hf
  exact Le.rf
set_option maxRecDepth 20000 in
theorem zb_X11_sides_41 {N : Nat} {r : Int32 × AS} {E : EV} (hE : TG E (some (.int r.1)) r.2)   {l3 : Int32} {s : AS} (hf : f_X11_sides_41 N l3 s = some r) : Z E yX11_sides cX11_sides 4 (some .int) 7 s 41 [(3, .int l3)] [] := by
  unfold f_X11_sides_41 at hf
  refine z_iload_n 0 dX11_sides_41 rfl rfl ?_
  cases hf
  exact z_ireturn hE rfl dX11_sides_42
set_option maxRecDepth 20000 in
theorem le_X11_sides_23 {N : Nat} {r : Int32 × AS}  {l0 : Nat} {l1 : Int32} {t0 : Int32} {s : AS} (hf : f_X11_sides_23 N l0 l1 t0 s = some r) : Le s r.2 := by
  unfold f_X11_sides_23 at hf
  refine ite_c hf (fun hf => ?_) (fun hf => ?_)
  · exact Le.via (le_X11_sides_41 hf) rfl
  · obtain ⟨v3, -, hf⟩ := ob hf
    obtain ⟨v4, -, hf⟩ := ob hf
    obtain ⟨v5, -, hf⟩ := ob hf
    exact Le.via (le_X11_sides_41 hf) rfl
set_option maxRecDepth 20000 in
theorem zb_X11_sides_23 {N : Nat} {r : Int32 × AS} {E : EV} (hE : TG E (some (.int r.1)) r.2)   {l0 : Nat} {l1 : Int32} {t0 : Int32} {s : AS} (hf : f_X11_sides_23 N l0 l1 t0 s = some r) : Z E yX11_sides cX11_sides 4 (some .int) 7 s 23 [(0, .ref l0), (1, .int l1)] [.int t0] := by
  unfold f_X11_sides_23 at hf
  refine z_istore_n [(3, .int t0), (0, .ref l0), (1, .int l1)] dX11_sides_23 rfl (by decide) rfl ?_
  refine z_iload_n 0 dX11_sides_24 rfl rfl ?_
  refine z_if_lt 41 hf dX11_sides_25 (by decide) (fun hf => ?_) (fun hf => ?_)
  · refine z_lv [(3, .int t0)] [0] rfl ?_
    exact zb_X11_sides_41 hE hf
  · refine z_aload_n 1 dX11_sides_28 rfl rfl ?_
    refine z_gP (ci := 11) (k := 1) (C := RX11) (T := TX11) (N := 14) rfl inlX11 (by decide) mw_1_19 (fun _ _ _ _ h9 => h9) hf (by decide) rfl dX11_sides_29  (fun v3 hf => ?_)
    refine z_gP (ci := 1) (k := 1) (C := RX1) (T := TX1) (N := 8) rfl inlX1 (by decide) mw_12_12 (fun _ _ _ _ h9 => h9) hf (by decide) rfl dX11_sides_32  (fun v4 hf => ?_)
    refine z_iload_n 2 dX11_sides_35 rfl rfl ?_
    refine z_iconst 2 2 dX11_sides_36 (by decide) ?_
    refine z_iconst 0 0 dX11_sides_37 (by decide) ?_
    obtain ⟨v5, ev5, hf⟩ := ob hf
    refine z_cVv (ci := 8) (T := TX8) (N := 2) (As := [.int l1, .int (2 : Int32), .int (0 : Int32)]) (rest := []) (zm_X8_put ev5).2 (zm_X8_put ev5).1 (by decide) rfl (Or.inl rfl) mw_12_22 mw_12_23 mw_13_0 mw_3_13 mw_13_1 yk_X8_put (by decide) (by decide) rfl (Nat.le_of_ble_eq_true rfl) rfl dX11_sides_38 ?_
    refine z_lv [(3, .int t0)] [0] rfl ?_
    exact zb_X11_sides_41 hE hf
set_option maxRecDepth 20000 in
theorem lm_X11_sides {N : Nat} {s : AS} {l0 : Nat} {l1 : Int32} {l2 : Int32} {r : Int32 × AS} (hf : f_X11_sides N l0 l1 l2 s = some r) : Le s r.2 := by
  unfold f_X11_sides at hf
  refine ite_c hf (fun hf => ?_) (fun hf => ?_)
  · skip
    refine ite_c hf (fun hf => ?_) (fun hf => ?_)
    · exact Le.via (le_X11_sides_9 hf) rfl
    · refine ite_c hf (fun hf => ?_) (fun hf => ?_)
      · obtain ⟨v1, ev1, hf⟩ := ob hf
        refine Le.of (t := (s.1, s.2)) rfl ((lm_X11_become ev1).tr ?_)
        exact Le.via (le_X11_sides_23 hf) rfl
      · exact Le.via (le_X11_sides_9 hf) rfl
  · cases hf
set_option maxRecDepth 20000 in
theorem zm_X11_sides {N : Nat} {s : AS} {l0 : Nat} {l1 : Int32} {l2 : Int32} {r : Int32 × AS} (hf : f_X11_sides N l0 l1 l2 s = some r) : isO s.1 l0 11 ∧ ∀ (l : Launch) (G : GG), Mt l G yX11_sides cX11_sides 4 (some .int) 7 [.ref l0, .int l1, .int l2] s (some (.int r.1)) r.2 := by
  have hf0 := hf
  unfold f_X11_sides at hf
  refine ite_d hf (fun hO hf => ?_) (fun _ hf => ?_)
  · refine ⟨hO, fun l G => mt_of (Or.inl (by decide)) (Nat.le_of_ble_eq_true rfl) (lm_X11_sides hf0) (fun E hE => ?_)⟩
    show Z E yX11_sides cX11_sides 4 (some .int) 7 s 0 [(0, .ref l0), (1, .int l1), (2, .int l2)] []
    refine z_iload_n 2 dX11_sides_0 rfl rfl ?_
    refine z_if_lt 9 hf dX11_sides_1 (by decide) (fun hf => ?_) (fun hf => ?_)
    · refine z_lv [(0, .ref l0)] [0] rfl ?_
      exact zb_X11_sides_9 hE hf
    · refine z_iload_n 2 dX11_sides_4 rfl rfl ?_
      refine z_iconst 2 2 dX11_sides_5 (by decide) ?_
      refine z_icmp_le 16 hf dX11_sides_6 (by decide) (fun hf => ?_) (fun hf => ?_)
      · refine z_aload_n 0 dX11_sides_16 rfl rfl ?_
        refine z_iload_n 1 dX11_sides_17 rfl rfl ?_
        refine z_iconst 3 3 dX11_sides_18 (by decide) ?_
        refine z_iload_n 2 dX11_sides_19 rfl rfl ?_
        obtain ⟨v1, ev1, hf⟩ := ob hf
        refine z_cVi (ci := 11) (T := TX11) (N := 14) (As := [.int l1, .int (3 : Int32), .int l2]) (rest := []) (zm_X11_become ev1).2 (zm_X11_become ev1).1 (by decide) rfl (Or.inr (tg_le hE (le_X11_sides_23 hf))) mw_13_18 mw_13_19 mw_13_20 mw_1_2 mw_13_21 yk_X11_become (by decide) (by decide) rfl (Nat.le_of_ble_eq_true rfl) rfl dX11_sides_20 ?_
        refine z_lv [(0, .ref l0), (1, .int l1)] [0, 1] rfl ?_
        exact zb_X11_sides_23 hE hf
      · refine z_lv [(0, .ref l0)] [0] rfl ?_
        exact zb_X11_sides_9 hE hf
  · cases hf
set_option maxRecDepth 20000 in
theorem zb_X11_sign_22 {N : Nat} {sh : Sh} {d : Dt} {r : Int32} {E : EV} (hE : TG E (some (.int r)) (sh, d))  {t0 : Int32} (hf : f_X11_sign_22 N sh t0 d = some r) : Z E yX11_sign cX11_sign 2 (some .int) 1 (sh, d) 22 [] [.int t0] := by
  unfold f_X11_sign_22 at hf
  cases hf
  exact z_ireturn hE rfl dX11_sign_22
set_option maxRecDepth 20000 in
theorem zb_X11_sign_21 {N : Nat} {sh : Sh} {d : Dt} {r : Int32} {E : EV} (hE : TG E (some (.int r)) (sh, d))   (hf : f_X11_sign_21 N sh  d = some r) : Z E yX11_sign cX11_sign 2 (some .int) 1 (sh, d) 21 [] [] := by
  unfold f_X11_sign_21 at hf
  refine z_iconst (-1) (-1) dX11_sign_21 (by decide) ?_
  exact zb_X11_sign_22 hE hf
set_option maxRecDepth 20000 in
theorem zm_X11_sign {N : Nat} {sh : Sh} {d : Dt} {l0 : Nat} {l1 : Int32} {r : Int32} (hf : f_X11_sign N sh l0 l1 d = some r) : isO sh l0 11 ∧ ∀ (l : Launch) (G : GG), Mt l G yX11_sign cX11_sign 2 (some .int) 1 [.ref l0, .int l1] (sh, d) (some (.int r)) (sh, d) := by
  have hf0 := hf
  unfold f_X11_sign at hf
  refine ite_d hf (fun hO hf => ?_) (fun _ hf => ?_)
  · refine ⟨hO, fun l G => mt_of (Or.inl (by decide)) (Nat.le_of_ble_eq_true rfl) Le.rf (fun E hE => ?_)⟩
    show Z E yX11_sign cX11_sign 2 (some .int) 1 (sh, d) 0 [(0, .ref l0), (1, .int l1)] []
    refine z_iload_n 1 dX11_sign_0 rfl rfl ?_
    refine z_if_lt 21 hf dX11_sign_1 (by decide) (fun hf => ?_) (fun hf => ?_)
    · refine z_lv [] [] rfl ?_
      exact zb_X11_sign_21 hE hf
    · refine z_iload_n 1 dX11_sign_4 rfl rfl ?_
      refine z_aload_n 0 dX11_sign_5 rfl rfl ?_
      refine z_gI (ci := 11) (k := 12) (C := RX11) (T := TX11) (N := 14) rfl inlX11 (by decide) mw_2_19 (fun _ _ _ _ h9 => h9) hf (by decide) rfl dX11_sign_6  (fun v1 hf => ?_)
      refine z_icmp_ge 21 hf dX11_sign_9 (by decide) (fun hf => ?_) (fun hf => ?_)
      · refine z_lv [] [] rfl ?_
        exact zb_X11_sign_21 hE hf
      · refine z_aload_n 0 dX11_sign_12 rfl rfl ?_
        refine z_gQ (ci := 11) (k := 11) (C := RX11) (T := TX11) (N := 14) rfl inlX11 (by decide) mw_2_18 (fun _ _ _ _ h9 => h9) hf (by decide) rfl dX11_sign_13  (fun v2 hf => ?_)
        refine z_iload_n 1 dX11_sign_16 rfl rfl ?_
        refine z_aC hf dX11_sign_17  (fun v3 hf => ?_)
        refine z_goto 22 dX11_sign_18 (by decide) ?_
        refine z_lv [] [] rfl ?_
        exact zb_X11_sign_22 hE hf
  · cases hf
set_option maxRecDepth 20000 in
theorem le_X11_snow_11 {N : Nat} {r : Int32 × AS}  {l0 : Nat} {s : AS} (hf : f_X11_snow_11 N l0 s = some r) : Le s r.2 := by
  unfold f_X11_snow_11 at hf
  obtain ⟨v2, -, hf⟩ := ob hf
  cases hf
  exact Le.rf
set_option maxRecDepth 20000 in
theorem zb_X11_snow_11 {N : Nat} {r : Int32 × AS} {E : EV} (hE : TG E (some (.int r.1)) r.2)   {l0 : Nat} {s : AS} (hf : f_X11_snow_11 N l0 s = some r) : Z E yX11_snow cX11_snow 4 (some .int) 6 s 11 [(0, .ref l0)] [] := by
  unfold f_X11_snow_11 at hf
  refine z_aload_n 0 dX11_snow_11 rfl rfl ?_
  refine z_bipush (-2) (-2) dX11_snow_12 (by decide) ?_
  obtain ⟨v2, ev2, hf⟩ := ob hf
  refine z_cVi (ci := 11) (T := TX11) (N := 14) (As := [.int (-2 : Int32)]) (rest := []) (zm_X11_refuse ev2).2 (zm_X11_refuse ev2).1 (by decide) rfl (Or.inl rfl) mw_7_22 mw_7_23 mw_8_0 mw_1_2 mw_8_1 yk_X11_refuse (by decide) (by decide) rfl (Nat.le_of_ble_eq_true rfl) rfl dX11_snow_14 ?_
  cases hf
  exact z_ireturn hE rfl dX11_snow_17
set_option maxRecDepth 20000 in
theorem le_X11_snow_69 {N : Nat} {r : Int32 × AS}  {l0 : Nat} {l2 : Int32} {s : AS} (hf : f_X11_snow_69 N l0 l2 s = some r) : Le s r.2 := by
  unfold f_X11_snow_69 at hf
  obtain ⟨v10, -, hf⟩ := ob hf
  cases hf
  exact Le.rf
set_option maxRecDepth 20000 in
theorem zb_X11_snow_69 {N : Nat} {r : Int32 × AS} {E : EV} (hE : TG E (some (.int r.1)) r.2)   {l0 : Nat} {l2 : Int32} {s : AS} (hf : f_X11_snow_69 N l0 l2 s = some r) : Z E yX11_snow cX11_snow 4 (some .int) 6 s 69 [(0, .ref l0), (2, .int l2)] [] := by
  unfold f_X11_snow_69 at hf
  refine z_aload_n 0 dX11_snow_69 rfl rfl ?_
  refine z_iload_n 1 dX11_snow_70 rfl rfl ?_
  obtain ⟨v10, ev10, hf⟩ := ob hf
  refine z_cVi (ci := 11) (T := TX11) (N := 14) (As := [.int l2]) (rest := []) (zm_X11_answer ev10).2 (zm_X11_answer ev10).1 (by decide) rfl (Or.inl rfl) mw_11_2 mw_11_3 mw_11_4 mw_1_2 mw_11_5 yk_X11_answer (by decide) (by decide) rfl (Nat.le_of_ble_eq_true rfl) rfl dX11_snow_71 ?_
  cases hf
  exact z_ireturn hE rfl dX11_snow_74
set_option maxRecDepth 20000 in
theorem le_X11_snow_63 {N : Nat} {k38 : Nat → Int32 → Int32 → AS → Option (Int32 × AS)} {r : Int32 × AS} (hk38 : ∀ (l0 : Nat) (l2 : Int32) (l3 : Int32) (s : AS), k38 l0 l2 l3 s = some r → Le s r.2) {l0 : Nat} {l2 : Int32} {l3 : Int32} {s : AS} (hf : f_X11_snow_63 N k38 l0 l2 l3 s = some r) : Le s r.2 := by
  unfold f_X11_snow_63 at hf
  exact Le.via (hk38 _ _ _ _ hf) rfl
set_option maxRecDepth 20000 in
theorem zb_X11_snow_63 {N : Nat} {k38 : Nat → Int32 → Int32 → AS → Option (Int32 × AS)} {r : Int32 × AS} {E : EV} (hE : TG E (some (.int r.1)) r.2) (hk38 : ∀ (l0 : Nat) (l2 : Int32) (l3 : Int32) (s : AS), k38 l0 l2 l3 s = some r → Z E yX11_snow cX11_snow 4 (some .int) 6 s 38 [(0, .ref l0), (2, .int l2), (3, .int l3)] []) (hq38 : ∀ (l0 : Nat) (l2 : Int32) (l3 : Int32) (s : AS), k38 l0 l2 l3 s = some r → Le s r.2) {l0 : Nat} {l2 : Int32} {l3 : Int32} {s : AS} (hf : f_X11_snow_63 N k38 l0 l2 l3 s = some r) : Z E yX11_snow cX11_snow 4 (some .int) 6 s 63 [(0, .ref l0), (2, .int l2), (3, .int l3)] [] := by
  unfold f_X11_snow_63 at hf
  refine z_iinc [(3, .int (l3 + 1)), (0, .ref l0), (2, .int l2)] 2 (l3 + 1) dX11_snow_63 rfl rfl (by decide) rfl ?_
  refine z_goto 38 dX11_snow_66 (by decide) ?_
  refine z_lv [(0, .ref l0), (2, .int l2), (3, .int (l3 + 1))] [1, 2, 0] rfl ?_
  exact hk38 _ _ _ _ hf
set_option maxRecDepth 20000 in
theorem lg_X11_snow_38 {N : Nat} {r : Int32 × AS} {k38 : Nat → Int32 → Int32 → AS → Option (Int32 × AS)}  (hk38 : ∀ (l0 : Nat) (l2 : Int32) (l3 : Int32) (s : AS), k38 l0 l2 l3 s = some r → Le s r.2) {l0 : Nat} {l2 : Int32} {l3 : Int32} {s : AS} (hf : g_X11_snow_38 N k38 l0 l2 l3 s = some r) : Le s r.2 := by
  unfold g_X11_snow_38 at hf
  obtain ⟨v6, -, hf⟩ := ob hf
  obtain ⟨v7, -, hf⟩ := ob hf
  obtain ⟨v8, -, hf⟩ := ob hf
  refine ite_c hf (fun hf => ?_) (fun hf => ?_)
  · exact Le.via (le_X11_snow_69 hf) rfl
  · obtain ⟨v9, -, hf⟩ := ob hf
    refine ite_c hf (fun hf => ?_) (fun hf => ?_)
    · exact Le.via (le_X11_snow_63 hk38 hf) rfl
    · exact Le.via (le_X11_snow_63 hk38 hf) rfl
set_option maxRecDepth 20000 in
theorem le_X11_snow_38 {N : Nat} {r : Int32 × AS}  : ∀ (n : Nat) (l0 : Nat) (l2 : Int32) (l3 : Int32) (s : AS), f_X11_snow_38 N n l0 l2 l3 s = some r → Le s r.2 := by
  intro n
  induction n with
  | zero => intro l0 l2 l3 s hf; cases hf
  | succ n ih => intro l0 l2 l3 s hf; exact lg_X11_snow_38 ih hf
set_option maxRecDepth 20000 in
theorem zg_X11_snow_38 {N : Nat} {r : Int32 × AS} {k38 : Nat → Int32 → Int32 → AS → Option (Int32 × AS)} {E : EV} (hE : TG E (some (.int r.1)) r.2)   (hk38 : ∀ (l0 : Nat) (l2 : Int32) (l3 : Int32) (s : AS), k38 l0 l2 l3 s = some r → Z E yX11_snow cX11_snow 4 (some .int) 6 s 38 [(0, .ref l0), (2, .int l2), (3, .int l3)] []) (hq38 : ∀ (l0 : Nat) (l2 : Int32) (l3 : Int32) (s : AS), k38 l0 l2 l3 s = some r → Le s r.2) {l0 : Nat} {l2 : Int32} {l3 : Int32} {s : AS} (hf : g_X11_snow_38 N k38 l0 l2 l3 s = some r) : Z E yX11_snow cX11_snow 4 (some .int) 6 s 38 [(0, .ref l0), (2, .int l2), (3, .int l3)] [] := by
  unfold g_X11_snow_38 at hf
  refine z_iload_n 2 dX11_snow_38 rfl rfl ?_
  refine z_aload_n 0 dX11_snow_39 rfl rfl ?_
  refine z_gP (ci := 11) (k := 1) (C := RX11) (T := TX11) (N := 14) rfl inlX11 (by decide) mw_1_19 (fun _ _ _ _ h9 => h9) hf (by decide) rfl dX11_snow_40  (fun v6 hf => ?_)
  refine z_gP (ci := 1) (k := 1) (C := RX1) (T := TX1) (N := 8) rfl inlX1 (by decide) mw_12_12 (fun _ _ _ _ h9 => h9) hf (by decide) rfl dX11_snow_43  (fun v7 hf => ?_)
  refine z_gI (ci := 8) (k := 1) (C := RX8) (T := TX8) (N := 2) rfl inlX8 (by decide) mw_12_13 (fun _ _ _ _ h9 => h9) hf (by decide) rfl dX11_snow_46  (fun v8 hf => ?_)
  refine z_icmp_ge 69 hf dX11_snow_49 (by decide) (fun hf => ?_) (fun hf => ?_)
  · refine z_lv [(0, .ref l0), (2, .int l2)] [0, 1] rfl ?_
    exact zb_X11_snow_69 hE hf
  · refine z_aload_n 0 dX11_snow_52 rfl rfl ?_
    refine z_iload_n 2 dX11_snow_53 rfl rfl ?_
    obtain ⟨v9, ev9, hf⟩ := ob hf
    refine z_cVi (ci := 11) (T := TX11) (N := 14) (As := [.int l3]) (rest := []) (zm_X11_fallOn ev9).2 (zm_X11_fallOn ev9).1 (by decide) rfl (Or.inl rfl) mw_27_13 mw_27_14 mw_27_15 mw_1_2 mw_27_16 yk_X11_fallOn (by decide) (by decide) rfl (Nat.le_of_ble_eq_true rfl) rfl dX11_snow_54 ?_
    refine z_if_eq 63 hf dX11_snow_57 (by decide) (fun hf => ?_) (fun hf => ?_)
    · exact zb_X11_snow_63 hE hk38 hq38 hf
    · refine z_iinc [(2, .int (l2 + 1)), (0, .ref l0), (3, .int l3)] 1 (l2 + 1) dX11_snow_60 rfl rfl (by decide) rfl ?_
      refine z_lv [(0, .ref l0), (2, .int (l2 + 1)), (3, .int l3)] [1, 0, 2] rfl ?_
      exact zb_X11_snow_63 hE hk38 hq38 hf
set_option maxRecDepth 20000 in
theorem zb_X11_snow_38 {N : Nat} {r : Int32 × AS} {E : EV} (hE : TG E (some (.int r.1)) r.2)   : ∀ (n : Nat) (l0 : Nat) (l2 : Int32) (l3 : Int32) (s : AS), f_X11_snow_38 N n l0 l2 l3 s = some r → Z E yX11_snow cX11_snow 4 (some .int) 6 s 38 [(0, .ref l0), (2, .int l2), (3, .int l3)] [] := by
  intro n
  induction n with
  | zero => intro l0 l2 l3 s hf; cases hf
  | succ n ih => intro l0 l2 l3 s hf; exact zg_X11_snow_38 hE ih (le_X11_snow_38 n) hf
set_option maxRecDepth 20000 in
theorem le_X11_snow_22 {N : Nat} {r : Int32 × AS}  {l0 : Nat} {l1 : Int32} {s : AS} (hf : f_X11_snow_22 N l0 l1 s = some r) : Le s r.2 := by
  unfold f_X11_snow_22 at hf
  obtain ⟨v3, -, hf⟩ := ob hf
  obtain ⟨v4, -, hf⟩ := ob hf
  obtain ⟨v5, -, hf⟩ := ob hf
  exact Le.via (le_X11_snow_38 N _ _ _ _ hf) rfl
set_option maxRecDepth 20000 in
theorem zb_X11_snow_22 {N : Nat} {r : Int32 × AS} {E : EV} (hE : TG E (some (.int r.1)) r.2)   {l0 : Nat} {l1 : Int32} {s : AS} (hf : f_X11_snow_22 N l0 l1 s = some r) : Z E yX11_snow cX11_snow 4 (some .int) 6 s 22 [(0, .ref l0), (1, .int l1)] [] := by
  unfold f_X11_snow_22 at hf
  refine z_aload_n 0 dX11_snow_22 rfl rfl ?_
  refine z_iload_n 1 dX11_snow_23 rfl rfl ?_
  obtain ⟨v3, ev3, hf⟩ := ob hf
  refine z_cVv (ci := 11) (T := TX11) (N := 14) (As := [.int l1]) (rest := []) (zm_X11_readGauges ev3).2 (zm_X11_readGauges ev3).1 (by decide) rfl (Or.inl rfl) mw_27_6 mw_27_7 mw_27_8 mw_1_2 mw_27_9 yk_X11_readGauges (by decide) (by decide) rfl (Nat.le_of_ble_eq_true rfl) rfl dX11_snow_24 ?_
  refine z_aload_n 0 dX11_snow_27 rfl rfl ?_
  refine z_gP (ci := 11) (k := 3) (C := RX11) (T := TX11) (N := 14) rfl inlX11 (by decide) mw_2_0 (fun _ _ _ _ h9 => h9) hf (by decide) rfl dX11_snow_28  (fun v4 hf => ?_)
  obtain ⟨v5, ev5, hf⟩ := ob hf
  refine z_cVv (ci := 10) (T := TX10) (N := 6) (As := []) (rest := []) (zm_X10_prepare ev5).2 (zm_X10_prepare ev5).1 (by decide) rfl (Or.inl rfl) mw_27_12 mw_16_3 mw_16_4 mw_1_23 mw_16_5 yk_X10_prepare (by decide) (by decide) rfl (Nat.le_of_ble_eq_true rfl) rfl dX11_snow_31 ?_
  refine z_iconst 0 0 dX11_snow_34 (by decide) ?_
  refine z_istore_n [(2, .int (0 : Int32)), (0, .ref l0), (1, .int l1)] dX11_snow_35 rfl (by decide) rfl ?_
  refine z_iconst 0 0 dX11_snow_36 (by decide) ?_
  refine z_istore_n [(3, .int (0 : Int32)), (2, .int (0 : Int32)), (0, .ref l0), (1, .int l1)] dX11_snow_37 rfl (by decide) rfl ?_
  refine z_lv [(0, .ref l0), (2, .int (0 : Int32)), (3, .int (0 : Int32))] [2, 1, 0] rfl ?_
  exact zb_X11_snow_38 hE N _ _ _ _ hf
set_option maxRecDepth 20000 in
theorem lm_X11_snow {N : Nat} {s : AS} {l0 : Nat} {l1 : Int32} {r : Int32 × AS} (hf : f_X11_snow N l0 l1 s = some r) : Le s r.2 := by
  unfold f_X11_snow at hf
  refine ite_c hf (fun hf => ?_) (fun hf => ?_)
  · skip
    refine ite_c hf (fun hf => ?_) (fun hf => ?_)
    · exact Le.via (le_X11_snow_11 hf) rfl
    · refine ite_c hf (fun hf => ?_) (fun hf => ?_)
      · obtain ⟨v1, ev1, hf⟩ := ob hf
        refine Le.of (t := (s.1, s.2)) rfl ((lm_X11_change ev1).tr ?_)
        exact Le.via (le_X11_snow_22 hf) rfl
      · exact Le.via (le_X11_snow_11 hf) rfl
  · cases hf
set_option maxRecDepth 20000 in
theorem zm_X11_snow {N : Nat} {s : AS} {l0 : Nat} {l1 : Int32} {r : Int32 × AS} (hf : f_X11_snow N l0 l1 s = some r) : isO s.1 l0 11 ∧ ∀ (l : Launch) (G : GG), Mt l G yX11_snow cX11_snow 4 (some .int) 6 [.ref l0, .int l1] s (some (.int r.1)) r.2 := by
  have hf0 := hf
  unfold f_X11_snow at hf
  refine ite_d hf (fun hO hf => ?_) (fun _ hf => ?_)
  · refine ⟨hO, fun l G => mt_of (Or.inl (by decide)) (Nat.le_of_ble_eq_true rfl) (lm_X11_snow hf0) (fun E hE => ?_)⟩
    show Z E yX11_snow cX11_snow 4 (some .int) 6 s 0 [(0, .ref l0), (1, .int l1)] []
    refine z_iload_n 1 dX11_snow_0 rfl rfl ?_
    refine z_if_lt 11 hf dX11_snow_1 (by decide) (fun hf => ?_) (fun hf => ?_)
    · refine z_lv [(0, .ref l0)] [0] rfl ?_
      exact zb_X11_snow_11 hE hf
    · refine z_iload_n 1 dX11_snow_4 rfl rfl ?_
      refine z_sipush 200 200 dX11_snow_5 (by decide) ?_
      refine z_icmp_lt 18 hf dX11_snow_8 (by decide) (fun hf => ?_) (fun hf => ?_)
      · refine z_aload_n 0 dX11_snow_18 rfl rfl ?_
        obtain ⟨v1, ev1, hf⟩ := ob hf
        refine z_cVv (ci := 11) (T := TX11) (N := 14) (As := []) (rest := []) (zm_X11_change ev1).2 (zm_X11_change ev1).1 (by decide) rfl (Or.inr (tg_le hE (le_X11_snow_22 hf))) mw_8_7 mw_8_8 mw_8_9 mw_1_2 mw_8_10 yk_X11_change (by decide) (by decide) rfl (Nat.le_of_ble_eq_true rfl) rfl dX11_snow_19 ?_
        exact zb_X11_snow_22 hE hf
      · refine z_lv [(0, .ref l0)] [0] rfl ?_
        exact zb_X11_snow_11 hE hf
  · cases hf
set_option maxRecDepth 20000 in
theorem zb_X11_takeDrives_172 {N : Nat} {sh : Sh} {r : Int32 × Dt} {E : EV} (hE : TG E (some (.int r.1)) (sh, r.2))  {l0 : Nat} {l1 : Int32} {l2 : Int32} {l3 : Int32} {l4 : Int32} {d : Dt} (hf : f_X11_takeDrives_172 N sh l0 l1 l2 l3 l4 d = some r) : Z E yX11_takeDrives cX11_takeDrives 9 (some .int) 4 (sh, d) 172 [(0, .ref l0), (1, .int l1), (2, .int l2), (3, .int l3), (4, .int l4)] [] := by
  unfold f_X11_takeDrives_172 at hf
  refine z_aload_n 0 dX11_takeDrives_172 rfl rfl ?_
  refine z_gP (ci := 11) (k := 8) (C := RX11) (T := TX11) (N := 14) rfl inlX11 (by decide) mw_2_14 (fun _ _ _ _ h9 => h9) hf (by decide) rfl dX11_takeDrives_173  (fun v16 hf => ?_)
  refine z_iload_n 1 dX11_takeDrives_176 rfl rfl ?_
  refine z_iload_n 2 dX11_takeDrives_177 rfl rfl ?_
  refine z_sI hf dX11_takeDrives_178  (fun d17 hf => ?_)
  refine z_aload_n 0 dX11_takeDrives_179 rfl rfl ?_
  refine z_gP (ci := 11) (k := 9) (C := RX11) (T := TX11) (N := 14) rfl inlX11 (by decide) mw_2_15 (fun _ _ _ _ h9 => h9) hf (by decide) rfl dX11_takeDrives_180  (fun v18 hf => ?_)
  refine z_iload_n 1 dX11_takeDrives_183 rfl rfl ?_
  refine z_iload 4 dX11_takeDrives_184 rfl ?_
  refine z_sI hf dX11_takeDrives_186  (fun d19 hf => ?_)
  refine z_aload_n 0 dX11_takeDrives_187 rfl rfl ?_
  refine z_gP (ci := 11) (k := 10) (C := RX11) (T := TX11) (N := 14) rfl inlX11 (by decide) mw_2_16 (fun _ _ _ _ h9 => h9) hf (by decide) rfl dX11_takeDrives_188  (fun v20 hf => ?_)
  refine z_iload_n 1 dX11_takeDrives_191 rfl rfl ?_
  refine z_iload_n 3 dX11_takeDrives_192 rfl rfl ?_
  refine z_sI hf dX11_takeDrives_193  (fun d21 hf => ?_)
  refine z_iload 4 dX11_takeDrives_194 rfl ?_
  cases hf
  exact z_ireturn hE rfl dX11_takeDrives_196
set_option maxRecDepth 20000 in
theorem zb_X11_takeDrives_169 {N : Nat} {sh : Sh} {k8 : Nat → Int32 → Int32 → Int32 → Int32 → Int32 → Dt → Option (Int32 × Dt)} {r : Int32 × Dt} {E : EV} (hE : TG E (some (.int r.1)) (sh, r.2)) (hk8 : ∀ (l0 : Nat) (l1 : Int32) (l2 : Int32) (l3 : Int32) (l4 : Int32) (l5 : Int32) (d : Dt), k8 l0 l1 l2 l3 l4 l5 d = some r → Z E yX11_takeDrives cX11_takeDrives 9 (some .int) 4 (sh, d) 8 [(0, .ref l0), (1, .int l1), (2, .int l2), (3, .int l3), (4, .int l4), (5, .int l5)] []) {l0 : Nat} {l1 : Int32} {l2 : Int32} {l3 : Int32} {l4 : Int32} {l5 : Int32} {d : Dt} (hf : f_X11_takeDrives_169 N sh k8 l0 l1 l2 l3 l4 l5 d = some r) : Z E yX11_takeDrives cX11_takeDrives 9 (some .int) 4 (sh, d) 169 [(0, .ref l0), (1, .int l1), (2, .int l2), (3, .int l3), (4, .int l4), (5, .int l5)] [] := by
  unfold f_X11_takeDrives_169 at hf
  refine z_goto 8 dX11_takeDrives_169 (by decide) ?_
  exact hk8 _ _ _ _ _ _ _ hf
set_option maxRecDepth 20000 in
theorem zb_X11_takeDrives_154 {N : Nat} {sh : Sh} {k8 : Nat → Int32 → Int32 → Int32 → Int32 → Int32 → Dt → Option (Int32 × Dt)} {r : Int32 × Dt} {E : EV} (hE : TG E (some (.int r.1)) (sh, r.2)) (hk8 : ∀ (l0 : Nat) (l1 : Int32) (l2 : Int32) (l3 : Int32) (l4 : Int32) (l5 : Int32) (d : Dt), k8 l0 l1 l2 l3 l4 l5 d = some r → Z E yX11_takeDrives cX11_takeDrives 9 (some .int) 4 (sh, d) 8 [(0, .ref l0), (1, .int l1), (2, .int l2), (3, .int l3), (4, .int l4), (5, .int l5)] []) {l0 : Nat} {l1 : Int32} {l2 : Int32} {l3 : Int32} {l4 : Int32} {l8 : Int32} {t0 : Int32} {d : Dt} (hf : f_X11_takeDrives_154 N sh k8 l0 l1 l2 l3 l4 l8 t0 d = some r) : Z E yX11_takeDrives cX11_takeDrives 9 (some .int) 4 (sh, d) 154 [(0, .ref l0), (1, .int l1), (2, .int l2), (3, .int l3), (4, .int l4), (8, .int l8)] [.int t0] := by
  unfold f_X11_takeDrives_154 at hf
  refine z_istore [(5, .int t0), (0, .ref l0), (1, .int l1), (2, .int l2), (3, .int l3), (4, .int l4), (8, .int l8)] dX11_takeDrives_154 (by decide) rfl ?_
  refine z_iload 0 dX11_takeDrives_156 rfl ?_
  refine z_if_eq 169 hf dX11_takeDrives_158 (by decide) (fun hf => ?_) (fun hf => ?_)
  · refine z_lv [(0, .ref l0), (1, .int l1), (2, .int l2), (3, .int l3), (4, .int l4), (5, .int t0)] [1, 2, 3, 4, 5, 0] rfl ?_
    exact zb_X11_takeDrives_169 hE hk8 hf
  · refine z_iload_n 4 dX11_takeDrives_161 rfl rfl ?_
    refine z_iload 6 dX11_takeDrives_162 rfl ?_
    refine z_iadd dX11_takeDrives_164 ?_
    refine z_istore_n [(3, .int (l3 + l8)), (5, .int t0), (0, .ref l0), (1, .int l1), (2, .int l2), (4, .int l4), (8, .int l8)] dX11_takeDrives_165 rfl (by decide) rfl ?_
    refine z_iinc [(4, .int (l4 + 1)), (3, .int (l3 + l8)), (5, .int t0), (0, .ref l0), (1, .int l1), (2, .int l2), (8, .int l8)] 5 (l4 + 1) dX11_takeDrives_166 rfl rfl (by decide) rfl ?_
    refine z_lv [(0, .ref l0), (1, .int l1), (2, .int l2), (3, .int (l3 + l8)), (4, .int (l4 + 1)), (5, .int t0)] [3, 4, 5, 1, 0, 2] rfl ?_
    exact zb_X11_takeDrives_169 hE hk8 hf
set_option maxRecDepth 20000 in
theorem zb_X11_takeDrives_153 {N : Nat} {sh : Sh} {k8 : Nat → Int32 → Int32 → Int32 → Int32 → Int32 → Dt → Option (Int32 × Dt)} {r : Int32 × Dt} {E : EV} (hE : TG E (some (.int r.1)) (sh, r.2)) (hk8 : ∀ (l0 : Nat) (l1 : Int32) (l2 : Int32) (l3 : Int32) (l4 : Int32) (l5 : Int32) (d : Dt), k8 l0 l1 l2 l3 l4 l5 d = some r → Z E yX11_takeDrives cX11_takeDrives 9 (some .int) 4 (sh, d) 8 [(0, .ref l0), (1, .int l1), (2, .int l2), (3, .int l3), (4, .int l4), (5, .int l5)] []) {l0 : Nat} {l1 : Int32} {l2 : Int32} {l3 : Int32} {l4 : Int32} {l8 : Int32} {d : Dt} (hf : f_X11_takeDrives_153 N sh k8 l0 l1 l2 l3 l4 l8 d = some r) : Z E yX11_takeDrives cX11_takeDrives 9 (some .int) 4 (sh, d) 153 [(0, .ref l0), (1, .int l1), (2, .int l2), (3, .int l3), (4, .int l4), (8, .int l8)] [] := by
  unfold f_X11_takeDrives_153 at hf
  refine z_iconst 0 0 dX11_takeDrives_153 (by decide) ?_
  exact zb_X11_takeDrives_154 hE hk8 hf
set_option maxRecDepth 20000 in
theorem zb_X11_takeDrives_123 {N : Nat} {sh : Sh} {k8 : Nat → Int32 → Int32 → Int32 → Int32 → Int32 → Dt → Option (Int32 × Dt)} {r : Int32 × Dt} {E : EV} (hE : TG E (some (.int r.1)) (sh, r.2)) (hk8 : ∀ (l0 : Nat) (l1 : Int32) (l2 : Int32) (l3 : Int32) (l4 : Int32) (l5 : Int32) (d : Dt), k8 l0 l1 l2 l3 l4 l5 d = some r → Z E yX11_takeDrives cX11_takeDrives 9 (some .int) 4 (sh, d) 8 [(0, .ref l0), (1, .int l1), (2, .int l2), (3, .int l3), (4, .int l4), (5, .int l5)] []) {l0 : Nat} {l1 : Int32} {l2 : Int32} {l3 : Int32} {l4 : Int32} {l7 : Int32} {t0 : Int32} {d : Dt} (hf : f_X11_takeDrives_123 N sh k8 l0 l1 l2 l3 l4 l7 t0 d = some r) : Z E yX11_takeDrives cX11_takeDrives 9 (some .int) 4 (sh, d) 123 [(0, .ref l0), (1, .int l1), (2, .int l2), (3, .int l3), (4, .int l4), (7, .int l7)] [.int t0] := by
  unfold f_X11_takeDrives_123 at hf
  refine z_istore [(8, .int t0), (0, .ref l0), (1, .int l1), (2, .int l2), (3, .int l3), (4, .int l4), (7, .int l7)] dX11_takeDrives_123 (by decide) rfl ?_
  refine z_iload 6 dX11_takeDrives_125 rfl ?_
  refine z_if_eq 153 hf dX11_takeDrives_127 (by decide) (fun hf => ?_) (fun hf => ?_)
  · refine z_lv [(0, .ref l0), (1, .int l1), (2, .int l2), (3, .int l3), (4, .int l4), (8, .int t0)] [1, 2, 3, 4, 5, 0] rfl ?_
    exact zb_X11_takeDrives_153 hE hk8 hf
  · refine z_iload_n 4 dX11_takeDrives_130 rfl rfl ?_
    refine z_iload 0 dX11_takeDrives_131 rfl ?_
    refine z_iadd dX11_takeDrives_133 ?_
    refine z_aload_n 1 dX11_takeDrives_134 rfl rfl ?_
    refine z_gP (ci := 11) (k := 1) (C := RX11) (T := TX11) (N := 14) rfl inlX11 (by decide) mw_1_19 (fun _ _ _ _ h9 => h9) hf (by decide) rfl dX11_takeDrives_135  (fun v28 hf => ?_)
    refine z_gP (ci := 1) (k := 3) (C := RX1) (T := TX1) (N := 8) rfl inlX1 (by decide) mw_29_16 (fun _ _ _ _ h9 => h9) hf (by decide) rfl dX11_takeDrives_138  (fun v29 hf => ?_)
    refine z_iload_n 2 dX11_takeDrives_141 rfl rfl ?_
    refine z_iconst 5 5 dX11_takeDrives_142 (by decide) ?_
    obtain ⟨v30, ev30, hf⟩ := ob hf
    refine z_cVi (ci := 8) (T := TX8) (N := 2) (As := [.int l1, .int (5 : Int32)]) (rest := [.int (l3 + t0)]) (zm_X8_get ev30).2 (zm_X8_get ev30).1 (by decide) rfl (Or.inl rfl) mw_14_2 mw_10_11 mw_10_12 mw_3_13 mw_10_13 yk_X8_get (by decide) (by decide) rfl (Nat.le_of_ble_eq_true rfl) rfl dX11_takeDrives_143 ?_
    refine z_icmp_gt 153 hf dX11_takeDrives_146 (by decide) (fun hf => ?_) (fun hf => ?_)
    · refine z_lv [(0, .ref l0), (1, .int l1), (2, .int l2), (3, .int l3), (4, .int l4), (8, .int t0)] [1, 2, 3, 4, 5, 0] rfl ?_
      exact zb_X11_takeDrives_153 hE hk8 hf
    · refine z_iconst 1 1 dX11_takeDrives_149 (by decide) ?_
      refine z_goto 154 dX11_takeDrives_150 (by decide) ?_
      refine z_lv [(0, .ref l0), (1, .int l1), (2, .int l2), (3, .int l3), (4, .int l4), (8, .int t0)] [1, 2, 3, 4, 5, 0] rfl ?_
      exact zb_X11_takeDrives_154 hE hk8 hf
set_option maxRecDepth 20000 in
theorem zb_X11_takeDrives_86 {N : Nat} {sh : Sh} {k8 : Nat → Int32 → Int32 → Int32 → Int32 → Int32 → Dt → Option (Int32 × Dt)} {r : Int32 × Dt} {E : EV} (hE : TG E (some (.int r.1)) (sh, r.2)) (hk8 : ∀ (l0 : Nat) (l1 : Int32) (l2 : Int32) (l3 : Int32) (l4 : Int32) (l5 : Int32) (d : Dt), k8 l0 l1 l2 l3 l4 l5 d = some r → Z E yX11_takeDrives cX11_takeDrives 9 (some .int) 4 (sh, d) 8 [(0, .ref l0), (1, .int l1), (2, .int l2), (3, .int l3), (4, .int l4), (5, .int l5)] []) {l0 : Nat} {l1 : Int32} {l2 : Int32} {l3 : Int32} {l4 : Int32} {l6 : Int32} {t0 : Int32} {d : Dt} (hf : f_X11_takeDrives_86 N sh k8 l0 l1 l2 l3 l4 l6 t0 d = some r) : Z E yX11_takeDrives cX11_takeDrives 9 (some .int) 4 (sh, d) 86 [(0, .ref l0), (1, .int l1), (2, .int l2), (3, .int l3), (4, .int l4), (6, .int l6)] [.int t0] := by
  unfold f_X11_takeDrives_86 at hf
  refine z_istore [(7, .int t0), (0, .ref l0), (1, .int l1), (2, .int l2), (3, .int l3), (4, .int l4), (6, .int l6)] dX11_takeDrives_86 (by decide) rfl ?_
  refine z_iload 0 dX11_takeDrives_88 rfl ?_
  refine z_if_ne 97 hf dX11_takeDrives_90 (by decide) (fun hf => ?_) (fun hf => ?_)
  · refine z_iload 0 dX11_takeDrives_97 rfl ?_
    refine z_aload_n 1 dX11_takeDrives_99 rfl rfl ?_
    refine z_gP (ci := 11) (k := 6) (C := RX11) (T := TX11) (N := 14) rfl inlX11 (by decide) mw_2_10 (fun _ _ _ _ h9 => h9) hf (by decide) rfl dX11_takeDrives_100  (fun v22 hf => ?_)
    refine z_iload_n 2 dX11_takeDrives_103 rfl rfl ?_
    refine z_aP hf dX11_takeDrives_104  (fun v23 hf => ?_)
    refine z_aload_n 1 dX11_takeDrives_105 rfl rfl ?_
    refine z_gP (ci := 11) (k := 1) (C := RX11) (T := TX11) (N := 14) rfl inlX11 (by decide) mw_1_19 (fun _ _ _ _ h9 => h9) hf (by decide) rfl dX11_takeDrives_106  (fun v24 hf => ?_)
    refine z_gP (ci := 1) (k := 1) (C := RX1) (T := TX1) (N := 8) rfl inlX1 (by decide) mw_12_12 (fun _ _ _ _ h9 => h9) hf (by decide) rfl dX11_takeDrives_109  (fun v25 hf => ?_)
    refine z_iload 6 dX11_takeDrives_112 rfl ?_
    refine z_bipush 6 6 dX11_takeDrives_114 (by decide) ?_
    obtain ⟨v26, ev26, hf⟩ := ob hf
    refine z_cVi (ci := 8) (T := TX8) (N := 2) (As := [.int l6, .int (6 : Int32)]) (rest := [.ref v23, .int t0]) (zm_X8_get ev26).2 (zm_X8_get ev26).1 (by decide) rfl (Or.inl rfl) mw_14_2 mw_10_11 mw_10_12 mw_3_13 mw_10_13 yk_X8_get (by decide) (by decide) rfl (Nat.le_of_ble_eq_true rfl) rfl dX11_takeDrives_116 ?_
    obtain ⟨v27, ev27, hf⟩ := ob hf
    refine z_vtakes (rest := [.int t0]) ev27 mw_34_5 (by decide) (Nat.le_of_ble_eq_true rfl) dX11_takeDrives_119 ?_
    refine z_imul dX11_takeDrives_122 ?_
    refine z_lv [(0, .ref l0), (1, .int l1), (2, .int l2), (3, .int l3), (4, .int l4), (7, .int t0)] [1, 2, 3, 4, 5, 0] rfl ?_
    exact zb_X11_takeDrives_123 hE hk8 hf
  · refine z_iconst 0 0 dX11_takeDrives_93 (by decide) ?_
    refine z_goto 123 dX11_takeDrives_94 (by decide) ?_
    refine z_lv [(0, .ref l0), (1, .int l1), (2, .int l2), (3, .int l3), (4, .int l4), (7, .int t0)] [1, 2, 3, 4, 5, 0] rfl ?_
    exact zb_X11_takeDrives_123 hE hk8 hf
set_option maxRecDepth 20000 in
theorem zg_X11_takeDrives_8 {N : Nat} {sh : Sh} {r : Int32 × Dt} {k8 : Nat → Int32 → Int32 → Int32 → Int32 → Int32 → Dt → Option (Int32 × Dt)} {E : EV} (hE : TG E (some (.int r.1)) (sh, r.2))  (hk8 : ∀ (l0 : Nat) (l1 : Int32) (l2 : Int32) (l3 : Int32) (l4 : Int32) (l5 : Int32) (d : Dt), k8 l0 l1 l2 l3 l4 l5 d = some r → Z E yX11_takeDrives cX11_takeDrives 9 (some .int) 4 (sh, d) 8 [(0, .ref l0), (1, .int l1), (2, .int l2), (3, .int l3), (4, .int l4), (5, .int l5)] []) {l0 : Nat} {l1 : Int32} {l2 : Int32} {l3 : Int32} {l4 : Int32} {l5 : Int32} {d : Dt} (hf : g_X11_takeDrives_8 N sh k8 l0 l1 l2 l3 l4 l5 d = some r) : Z E yX11_takeDrives cX11_takeDrives 9 (some .int) 4 (sh, d) 8 [(0, .ref l0), (1, .int l1), (2, .int l2), (3, .int l3), (4, .int l4), (5, .int l5)] [] := by
  unfold g_X11_takeDrives_8 at hf
  refine z_iload 4 dX11_takeDrives_8 rfl ?_
  refine z_aload_n 0 dX11_takeDrives_10 rfl rfl ?_
  refine z_gP (ci := 11) (k := 1) (C := RX11) (T := TX11) (N := 14) rfl inlX11 (by decide) mw_1_19 (fun _ _ _ _ h9 => h9) hf (by decide) rfl dX11_takeDrives_11  (fun v1 hf => ?_)
  refine z_gP (ci := 1) (k := 4) (C := RX1) (T := TX1) (N := 8) rfl inlX1 (by decide) mw_43_7 (fun _ _ _ _ h9 => h9) hf (by decide) rfl dX11_takeDrives_14  (fun v2 hf => ?_)
  refine z_gI (ci := 8) (k := 1) (C := RX8) (T := TX8) (N := 2) rfl inlX8 (by decide) mw_12_13 (fun _ _ _ _ h9 => h9) hf (by decide) rfl dX11_takeDrives_17  (fun v3 hf => ?_)
  refine z_icmp_ge 172 hf dX11_takeDrives_20 (by decide) (fun hf => ?_) (fun hf => ?_)
  · refine z_lv [(0, .ref l0), (1, .int l1), (2, .int l2), (3, .int l3), (4, .int l4)] [0, 1, 2, 3, 4] rfl ?_
    exact zb_X11_takeDrives_172 hE hf
  · refine z_iload 5 dX11_takeDrives_23 rfl ?_
    refine z_if_eq 172 hf dX11_takeDrives_25 (by decide) (fun hf => ?_) (fun hf => ?_)
    · refine z_lv [(0, .ref l0), (1, .int l1), (2, .int l2), (3, .int l3), (4, .int l4)] [0, 1, 2, 3, 4] rfl ?_
      exact zb_X11_takeDrives_172 hE hf
    · refine z_aload_n 0 dX11_takeDrives_28 rfl rfl ?_
      refine z_gP (ci := 11) (k := 1) (C := RX11) (T := TX11) (N := 14) rfl inlX11 (by decide) mw_1_19 (fun _ _ _ _ h9 => h9) hf (by decide) rfl dX11_takeDrives_29  (fun v4 hf => ?_)
      refine z_gP (ci := 1) (k := 4) (C := RX1) (T := TX1) (N := 8) rfl inlX1 (by decide) mw_43_7 (fun _ _ _ _ h9 => h9) hf (by decide) rfl dX11_takeDrives_32  (fun v5 hf => ?_)
      refine z_iload 4 dX11_takeDrives_35 rfl ?_
      refine z_iconst 0 0 dX11_takeDrives_37 (by decide) ?_
      obtain ⟨v6, ev6, hf⟩ := ob hf
      refine z_cVi (ci := 8) (T := TX8) (N := 2) (As := [.int l4, .int (0 : Int32)]) (rest := []) (zm_X8_get ev6).2 (zm_X8_get ev6).1 (by decide) rfl (Or.inl rfl) mw_14_2 mw_10_11 mw_10_12 mw_3_13 mw_10_13 yk_X8_get (by decide) (by decide) rfl (Nat.le_of_ble_eq_true rfl) rfl dX11_takeDrives_38 ?_
      refine z_istore [(6, .int v6), (0, .ref l0), (1, .int l1), (2, .int l2), (3, .int l3), (4, .int l4), (5, .int l5)] dX11_takeDrives_41 (by decide) rfl ?_
      refine z_aload_n 1 dX11_takeDrives_43 rfl rfl ?_
      refine z_gP (ci := 11) (k := 1) (C := RX11) (T := TX11) (N := 14) rfl inlX11 (by decide) mw_1_19 (fun _ _ _ _ h9 => h9) hf (by decide) rfl dX11_takeDrives_44  (fun v7 hf => ?_)
      refine z_gP (ci := 1) (k := 4) (C := RX1) (T := TX1) (N := 8) rfl inlX1 (by decide) mw_43_7 (fun _ _ _ _ h9 => h9) hf (by decide) rfl dX11_takeDrives_47  (fun v8 hf => ?_)
      refine z_iload 5 dX11_takeDrives_50 rfl ?_
      refine z_iconst 3 3 dX11_takeDrives_52 (by decide) ?_
      obtain ⟨v9, ev9, hf⟩ := ob hf
      refine z_cVi (ci := 8) (T := TX8) (N := 2) (As := [.int l4, .int (3 : Int32)]) (rest := []) (zm_X8_get ev9).2 (zm_X8_get ev9).1 (by decide) rfl (Or.inl rfl) mw_14_2 mw_10_11 mw_10_12 mw_3_13 mw_10_13 yk_X8_get (by decide) (by decide) rfl (Nat.le_of_ble_eq_true rfl) rfl dX11_takeDrives_53 ?_
      refine z_iconst 1 1 dX11_takeDrives_56 (by decide) ?_
      refine z_icmp_ne 85 hf dX11_takeDrives_57 (by decide) (fun hf => ?_) (fun hf => ?_)
      · refine z_iconst 1 1 dX11_takeDrives_85 (by decide) ?_
        refine z_lv [(0, .ref l0), (1, .int l1), (2, .int l2), (3, .int l3), (4, .int l4), (6, .int v6)] [1, 2, 3, 4, 5, 0] rfl ?_
        exact zb_X11_takeDrives_86 hE hk8 hf
      · refine z_aload_n 1 dX11_takeDrives_60 rfl rfl ?_
        refine z_gP (ci := 11) (k := 6) (C := RX11) (T := TX11) (N := 14) rfl inlX11 (by decide) mw_2_10 (fun _ _ _ _ h9 => h9) hf (by decide) rfl dX11_takeDrives_61  (fun v10 hf => ?_)
        refine z_iload_n 2 dX11_takeDrives_64 rfl rfl ?_
        refine z_aP hf dX11_takeDrives_65  (fun v11 hf => ?_)
        refine z_aload_n 1 dX11_takeDrives_66 rfl rfl ?_
        refine z_gP (ci := 11) (k := 1) (C := RX11) (T := TX11) (N := 14) rfl inlX11 (by decide) mw_1_19 (fun _ _ _ _ h9 => h9) hf (by decide) rfl dX11_takeDrives_67  (fun v12 hf => ?_)
        refine z_gP (ci := 1) (k := 1) (C := RX1) (T := TX1) (N := 8) rfl inlX1 (by decide) mw_12_12 (fun _ _ _ _ h9 => h9) hf (by decide) rfl dX11_takeDrives_70  (fun v13 hf => ?_)
        refine z_iload 0 dX11_takeDrives_73 rfl ?_
        refine z_iconst 0 0 dX11_takeDrives_75 (by decide) ?_
        obtain ⟨v14, ev14, hf⟩ := ob hf
        refine z_cVi (ci := 8) (T := TX8) (N := 2) (As := [.int v6, .int (0 : Int32)]) (rest := [.ref v11]) (zm_X8_get ev14).2 (zm_X8_get ev14).1 (by decide) rfl (Or.inl rfl) mw_14_2 mw_10_11 mw_10_12 mw_3_13 mw_10_13 yk_X8_get (by decide) (by decide) rfl (Nat.le_of_ble_eq_true rfl) rfl dX11_takeDrives_76 ?_
        obtain ⟨v15, ev15, hf⟩ := ob hf
        refine z_vpasses (rest := []) ev15 mw_35_15 (by decide) (Nat.le_of_ble_eq_true rfl) dX11_takeDrives_79 ?_
        refine z_goto 86 dX11_takeDrives_82 (by decide) ?_
        refine z_lv [(0, .ref l0), (1, .int l1), (2, .int l2), (3, .int l3), (4, .int l4), (6, .int v6)] [1, 2, 3, 4, 5, 0] rfl ?_
        exact zb_X11_takeDrives_86 hE hk8 hf
set_option maxRecDepth 20000 in
theorem zb_X11_takeDrives_8 {N : Nat} {sh : Sh} {r : Int32 × Dt} {E : EV} (hE : TG E (some (.int r.1)) (sh, r.2))  : ∀ (n : Nat) (l0 : Nat) (l1 : Int32) (l2 : Int32) (l3 : Int32) (l4 : Int32) (l5 : Int32) (d : Dt), f_X11_takeDrives_8 N sh n l0 l1 l2 l3 l4 l5 d = some r → Z E yX11_takeDrives cX11_takeDrives 9 (some .int) 4 (sh, d) 8 [(0, .ref l0), (1, .int l1), (2, .int l2), (3, .int l3), (4, .int l4), (5, .int l5)] [] := by
  intro n
  induction n with
  | zero => intro l0 l1 l2 l3 l4 l5 d hf; cases hf
  | succ n ih => intro l0 l1 l2 l3 l4 l5 d hf; exact zg_X11_takeDrives_8 hE ih hf
set_option maxRecDepth 20000 in
theorem zm_X11_takeDrives {N : Nat} {sh : Sh} {d : Dt} {l0 : Nat} {l1 : Int32} {l2 : Int32} {r : Int32 × Dt} (hf : f_X11_takeDrives N sh l0 l1 l2 d = some r) : isO sh l0 11 ∧ ∀ (l : Launch) (G : GG), Mt l G yX11_takeDrives cX11_takeDrives 9 (some .int) 4 [.ref l0, .int l1, .int l2] (sh, d) (some (.int r.1)) (sh, r.2) := by
  have hf0 := hf
  unfold f_X11_takeDrives at hf
  refine ite_d hf (fun hO hf => ?_) (fun _ hf => ?_)
  · refine ⟨hO, fun l G => mt_of (Or.inl (by decide)) (Nat.le_of_ble_eq_true rfl) Le.rf (fun E hE => ?_)⟩
    show Z E yX11_takeDrives cX11_takeDrives 9 (some .int) 4 (sh, d) 0 [(0, .ref l0), (1, .int l1), (2, .int l2)] []
    refine z_iconst 0 0 dX11_takeDrives_0 (by decide) ?_
    refine z_istore_n [(3, .int (0 : Int32)), (0, .ref l0), (1, .int l1), (2, .int l2)] dX11_takeDrives_1 rfl (by decide) rfl ?_
    refine z_iload_n 3 dX11_takeDrives_2 rfl rfl ?_
    refine z_istore [(4, .int l2), (3, .int (0 : Int32)), (0, .ref l0), (1, .int l1), (2, .int l2)] dX11_takeDrives_3 (by decide) rfl ?_
    refine z_iconst 1 1 dX11_takeDrives_5 (by decide) ?_
    refine z_istore [(5, .int (1 : Int32)), (4, .int l2), (3, .int (0 : Int32)), (0, .ref l0), (1, .int l1), (2, .int l2)] dX11_takeDrives_6 (by decide) rfl ?_
    refine z_lv [(0, .ref l0), (1, .int l1), (2, .int l2), (3, .int (0 : Int32)), (4, .int l2), (5, .int (1 : Int32))] [3, 4, 5, 2, 1, 0] rfl ?_
    exact zb_X11_takeDrives_8 hE N _ _ _ _ _ _ _ hf
  · cases hf
