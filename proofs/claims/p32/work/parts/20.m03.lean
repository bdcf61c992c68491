set_option maxRecDepth 20000 in
theorem zb_X12_isApart_82 {N : Nat} {sh : Sh} {d : Dt} {r : Int32} {E : EV} (hE : TG E (some (.int r)) (sh, d))  {l2 : Int32} (hf : f_X12_isApart_82 N sh l2 d = some r) : Z E yX12_isApart cX12_isApart 4 (some .boolean) 2 (sh, d) 82 [(2, .int l2)] [] := by
  unfold f_X12_isApart_82 at hf
  refine z_iload_n 0 dX12_isApart_82 rfl rfl ?_
  obtain ⟨v13, ev13, hg⟩ := ob hf
  obtain ⟨rfl, hbv13⟩ := o_bool_spec ev13
  cases hg
  exact z_zreturn hE rfl hbv13 dX12_isApart_83
set_option maxRecDepth 20000 in
theorem zb_X12_isApart_75 {N : Nat} {sh : Sh} {d : Dt} {k4 : Nat → Int32 → Int32 → Int32 → Option Int32} {r : Int32} {E : EV} (hE : TG E (some (.int r)) (sh, d)) (hk4 : ∀ (l0 : Nat) (l1 : Int32) (l2 : Int32) (l3 : Int32), k4 l0 l1 l2 l3 = some r → Z E yX12_isApart cX12_isApart 4 (some .boolean) 2 (sh, d) 4 [(0, .ref l0), (1, .int l1), (2, .int l2), (3, .int l3)] []) {l0 : Nat} {l1 : Int32} {l3 : Int32} {t0 : Int32} (hf : f_X12_isApart_75 N sh k4 l0 l1 l3 t0 d = some r) : Z E yX12_isApart cX12_isApart 4 (some .boolean) 2 (sh, d) 75 [(0, .ref l0), (1, .int l1), (3, .int l3)] [.int t0] := by
  unfold f_X12_isApart_75 at hf
  refine z_istore_n [(2, .int t0), (0, .ref l0), (1, .int l1), (3, .int l3)] dX12_isApart_75 rfl (by decide) rfl ?_
  refine z_iinc [(3, .int (l3 + 1)), (2, .int t0), (0, .ref l0), (1, .int l1)] 3 (l3 + 1) dX12_isApart_76 rfl rfl (by decide) rfl ?_
  refine z_goto 4 dX12_isApart_79 (by decide) ?_
  refine z_lv [(0, .ref l0), (1, .int l1), (2, .int t0), (3, .int (l3 + 1))] [2, 3, 1, 0] rfl ?_
  exact hk4 _ _ _ _ hf
set_option maxRecDepth 20000 in
theorem zb_X12_isApart_70 {N : Nat} {sh : Sh} {d : Dt} {k4 : Nat → Int32 → Int32 → Int32 → Option Int32} {r : Int32} {E : EV} (hE : TG E (some (.int r)) (sh, d)) (hk4 : ∀ (l0 : Nat) (l1 : Int32) (l2 : Int32) (l3 : Int32), k4 l0 l1 l2 l3 = some r → Z E yX12_isApart cX12_isApart 4 (some .boolean) 2 (sh, d) 4 [(0, .ref l0), (1, .int l1), (2, .int l2), (3, .int l3)] []) {l0 : Nat} {l1 : Int32} {l3 : Int32} (hf : f_X12_isApart_70 N sh k4 l0 l1 l3 d = some r) : Z E yX12_isApart cX12_isApart 4 (some .boolean) 2 (sh, d) 70 [(0, .ref l0), (1, .int l1), (3, .int l3)] [] := by
  unfold f_X12_isApart_70 at hf
  refine z_iconst 1 1 dX12_isApart_70 (by decide) ?_
  refine z_goto 75 dX12_isApart_71 (by decide) ?_
  exact zb_X12_isApart_75 hE hk4 hf
set_option maxRecDepth 20000 in
theorem zb_X12_isApart_74 {N : Nat} {sh : Sh} {d : Dt} {k4 : Nat → Int32 → Int32 → Int32 → Option Int32} {r : Int32} {E : EV} (hE : TG E (some (.int r)) (sh, d)) (hk4 : ∀ (l0 : Nat) (l1 : Int32) (l2 : Int32) (l3 : Int32), k4 l0 l1 l2 l3 = some r → Z E yX12_isApart cX12_isApart 4 (some .boolean) 2 (sh, d) 4 [(0, .ref l0), (1, .int l1), (2, .int l2), (3, .int l3)] []) {l0 : Nat} {l1 : Int32} {l3 : Int32} (hf : f_X12_isApart_74 N sh k4 l0 l1 l3 d = some r) : Z E yX12_isApart cX12_isApart 4 (some .boolean) 2 (sh, d) 74 [(0, .ref l0), (1, .int l1), (3, .int l3)] [] := by
  unfold f_X12_isApart_74 at hf
  refine z_iconst 0 0 dX12_isApart_74 (by decide) ?_
  exact zb_X12_isApart_75 hE hk4 hf
set_option maxRecDepth 20000 in
theorem zg_X12_isApart_4 {N : Nat} {sh : Sh} {d : Dt} {r : Int32} {k4 : Nat → Int32 → Int32 → Int32 → Option Int32} {E : EV} (hE : TG E (some (.int r)) (sh, d))  (hk4 : ∀ (l0 : Nat) (l1 : Int32) (l2 : Int32) (l3 : Int32), k4 l0 l1 l2 l3 = some r → Z E yX12_isApart cX12_isApart 4 (some .boolean) 2 (sh, d) 4 [(0, .ref l0), (1, .int l1), (2, .int l2), (3, .int l3)] []) {l0 : Nat} {l1 : Int32} {l2 : Int32} {l3 : Int32} (hf : g_X12_isApart_4 N sh k4 l0 l1 l2 l3 d = some r) : Z E yX12_isApart cX12_isApart 4 (some .boolean) 2 (sh, d) 4 [(0, .ref l0), (1, .int l1), (2, .int l2), (3, .int l3)] [] := by
  unfold g_X12_isApart_4 at hf
  refine z_iload_n 3 dX12_isApart_4 rfl rfl ?_
  refine z_aload_n 0 dX12_isApart_5 rfl rfl ?_
  refine z_gP (ci := 12) (k := 0) (C := RX12) (T := TX12) (N := 32) rfl inlX12 (by decide) mw_6_19 (fun _ _ _ _ h9 => h9) hf (by decide) rfl dX12_isApart_6  (fun v1 hf => ?_)
  refine z_iconst 1 1 dX12_isApart_9 (by decide) ?_
  refine z_aI hf dX12_isApart_10  (fun v2 hf => ?_)
  refine z_icmp_ge 82 hf dX12_isApart_11 (by decide) (fun hf => ?_) (fun hf => ?_)
  · refine z_lv [(2, .int l2)] [2] rfl ?_
    exact zb_X12_isApart_82 hE hf
  · refine z_iload_n 2 dX12_isApart_14 rfl rfl ?_
    refine z_if_ne 70 hf dX12_isApart_15 (by decide) (fun hf => ?_) (fun hf => ?_)
    · refine z_lv [(0, .ref l0), (1, .int l1), (3, .int l3)] [0, 1, 3] rfl ?_
      exact zb_X12_isApart_70 hE hk4 hf
    · refine z_aload_n 0 dX12_isApart_18 rfl rfl ?_
      refine z_gP (ci := 12) (k := 14) (C := RX12) (T := TX12) (N := 32) rfl inlX12 (by decide) mw_7_4 (fun _ _ _ _ h9 => h9) hf (by decide) rfl dX12_isApart_19  (fun v3 hf => ?_)
      refine z_iload_n 3 dX12_isApart_22 rfl rfl ?_
      refine z_aI hf dX12_isApart_23  (fun v4 hf => ?_)
      refine z_if_le 74 hf dX12_isApart_24 (by decide) (fun hf => ?_) (fun hf => ?_)
      · refine z_lv [(0, .ref l0), (1, .int l1), (3, .int l3)] [0, 1, 3] rfl ?_
        exact zb_X12_isApart_74 hE hk4 hf
      · refine z_aload_n 0 dX12_isApart_27 rfl rfl ?_
        refine z_gP (ci := 12) (k := 17) (C := RX12) (T := TX12) (N := 32) rfl inlX12 (by decide) mw_7_6 (fun _ _ _ _ h9 => h9) hf (by decide) rfl dX12_isApart_28  (fun v5 hf => ?_)
        refine z_iload_n 1 dX12_isApart_31 rfl rfl ?_
        refine z_aZ hf dX12_isApart_32  (fun v6 hf => ?_)
        refine z_if_ne 74 hf dX12_isApart_33 (by decide) (fun hf => ?_) (fun hf => ?_)
        · refine z_lv [(0, .ref l0), (1, .int l1), (3, .int l3)] [0, 1, 3] rfl ?_
          exact zb_X12_isApart_74 hE hk4 hf
        · refine z_aload_n 0 dX12_isApart_36 rfl rfl ?_
          refine z_gP (ci := 12) (k := 0) (C := RX12) (T := TX12) (N := 32) rfl inlX12 (by decide) mw_6_19 (fun _ _ _ _ h9 => h9) hf (by decide) rfl dX12_isApart_37  (fun v7 hf => ?_)
          refine z_aload_n 0 dX12_isApart_40 rfl rfl ?_
          refine z_iload_n 3 dX12_isApart_41 rfl rfl ?_
          obtain ⟨v8, ev8, hf⟩ := ob hf
          refine z_cVi (ci := 12) (T := TX12) (N := 32) (As := [.int l3]) (rest := [.ref v7]) (zm_X12_st ev8).2 (zm_X12_st ev8).1 (by decide) rfl (Or.inl rfl) mw_13_10 mw_13_11 mw_13_12 mw_1_5 mw_13_13 yk_X12_st (by decide) (by decide) rfl (Nat.le_of_ble_eq_true rfl) rfl dX12_isApart_42 ?_
          refine z_bipush 7 7 dX12_isApart_45 (by decide) ?_
          refine z_iadd dX12_isApart_47 ?_
          refine z_aI hf dX12_isApart_48  (fun v9 hf => ?_)
          refine z_iload_n 1 dX12_isApart_49 rfl rfl ?_
          refine z_icmp_eq 70 hf dX12_isApart_50 (by decide) (fun hf => ?_) (fun hf => ?_)
          · refine z_lv [(0, .ref l0), (1, .int l1), (3, .int l3)] [0, 1, 3] rfl ?_
            exact zb_X12_isApart_70 hE hk4 hf
          · refine z_aload_n 0 dX12_isApart_53 rfl rfl ?_
            refine z_gP (ci := 12) (k := 0) (C := RX12) (T := TX12) (N := 32) rfl inlX12 (by decide) mw_6_19 (fun _ _ _ _ h9 => h9) hf (by decide) rfl dX12_isApart_54  (fun v10 hf => ?_)
            refine z_aload_n 0 dX12_isApart_57 rfl rfl ?_
            refine z_iload_n 3 dX12_isApart_58 rfl rfl ?_
            obtain ⟨v11, ev11, hf⟩ := ob hf
            refine z_cVi (ci := 12) (T := TX12) (N := 32) (As := [.int l3]) (rest := [.ref v10]) (zm_X12_st ev11).2 (zm_X12_st ev11).1 (by decide) rfl (Or.inl rfl) mw_13_10 mw_13_11 mw_13_12 mw_1_5 mw_13_13 yk_X12_st (by decide) (by decide) rfl (Nat.le_of_ble_eq_true rfl) rfl dX12_isApart_59 ?_
            refine z_bipush 8 8 dX12_isApart_62 (by decide) ?_
            refine z_iadd dX12_isApart_64 ?_
            refine z_aI hf dX12_isApart_65  (fun v12 hf => ?_)
            refine z_iload_n 1 dX12_isApart_66 rfl rfl ?_
            refine z_icmp_ne 74 hf dX12_isApart_67 (by decide) (fun hf => ?_) (fun hf => ?_)
            · refine z_lv [(0, .ref l0), (1, .int l1), (3, .int l3)] [0, 1, 3] rfl ?_
              exact zb_X12_isApart_74 hE hk4 hf
            · refine z_lv [(0, .ref l0), (1, .int l1), (3, .int l3)] [0, 1, 3] rfl ?_
              exact zb_X12_isApart_70 hE hk4 hf
set_option maxRecDepth 20000 in
theorem zb_X12_isApart_4 {N : Nat} {sh : Sh} {d : Dt} {r : Int32} {E : EV} (hE : TG E (some (.int r)) (sh, d))  : ∀ (n : Nat) (l0 : Nat) (l1 : Int32) (l2 : Int32) (l3 : Int32), f_X12_isApart_4 N sh d n l0 l1 l2 l3 = some r → Z E yX12_isApart cX12_isApart 4 (some .boolean) 2 (sh, d) 4 [(0, .ref l0), (1, .int l1), (2, .int l2), (3, .int l3)] [] := by
  intro n
  induction n with
  | zero => intro l0 l1 l2 l3 hf; cases hf
  | succ n ih => intro l0 l1 l2 l3 hf; exact zg_X12_isApart_4 hE ih hf
set_option maxRecDepth 20000 in
theorem zm_X12_isApart {N : Nat} {sh : Sh} {d : Dt} {l0 : Nat} {l1 : Int32} {r : Int32} (hf : f_X12_isApart N sh l0 l1 d = some r) : isO sh l0 12 ∧ ∀ (l : Launch) (G : GG), Mt l G yX12_isApart cX12_isApart 4 (some .boolean) 2 [.ref l0, .int l1] (sh, d) (some (.int r)) (sh, d) := by
  have hf0 := hf
  unfold f_X12_isApart at hf
  refine ite_d hf (fun hO hf => ?_) (fun _ hf => ?_)
  · refine ⟨hO, fun l G => mt_of (Or.inl (by decide)) (Nat.le_of_ble_eq_true rfl) Le.rf (fun E hE => ?_)⟩
    show Z E yX12_isApart cX12_isApart 4 (some .boolean) 2 (sh, d) 0 [(0, .ref l0), (1, .int l1)] []
    refine z_iconst 0 0 dX12_isApart_0 (by decide) ?_
    refine z_istore_n [(2, .int (0 : Int32)), (0, .ref l0), (1, .int l1)] dX12_isApart_1 rfl (by decide) rfl ?_
    refine z_iconst 0 0 dX12_isApart_2 (by decide) ?_
    refine z_istore_n [(3, .int (0 : Int32)), (2, .int (0 : Int32)), (0, .ref l0), (1, .int l1)] dX12_isApart_3 rfl (by decide) rfl ?_
    refine z_lv [(0, .ref l0), (1, .int l1), (2, .int (0 : Int32)), (3, .int (0 : Int32))] [2, 3, 1, 0] rfl ?_
    exact zb_X12_isApart_4 hE N _ _ _ _ hf
  · cases hf
set_option maxRecDepth 20000 in
theorem zm_X12_pairsUp {N : Nat} {sh : Sh} {d : Dt} {l0 : Nat} {l1 : Int32} {l2 : Int32} {l3 : Int32} {r : Dt} (hf : f_X12_pairsUp N sh l0 l1 l2 l3 d = some r) : isO sh l0 12 ∧ ∀ (l : Launch) (G : GG), Mt l G yX12_pairsUp cX12_pairsUp 4 none 2 [.ref l0, .int l1, .int l2, .int l3] (sh, d) none (sh, r) := by
  have hf0 := hf
  unfold f_X12_pairsUp at hf
  refine ite_d hf (fun hO hf => ?_) (fun _ hf => ?_)
  · refine ⟨hO, fun l G => mt_of (Or.inl (by decide)) (Nat.le_of_ble_eq_true rfl) Le.rf (fun E hE => ?_)⟩
    show Z E yX12_pairsUp cX12_pairsUp 4 none 2 (sh, d) 0 [(0, .ref l0), (1, .int l1), (2, .int l2), (3, .int l3)] []
    refine z_aload_n 0 dX12_pairsUp_0 rfl rfl ?_
    refine z_gP (ci := 12) (k := 22) (C := RX12) (T := TX12) (N := 32) rfl inlX12 (by decide) mw_7_8 (fun _ _ _ _ h9 => h9) hf (by decide) rfl dX12_pairsUp_1  (fun v1 hf => ?_)
    refine z_iload_n 1 dX12_pairsUp_4 rfl rfl ?_
    refine z_iload_n 2 dX12_pairsUp_5 rfl rfl ?_
    refine z_iload_n 3 dX12_pairsUp_6 rfl rfl ?_
    obtain ⟨v2, ev2, hf⟩ := ob hf
    refine z_cTi (As := [.int l2, .int l3]) (rest := [.int l1, .ref v1]) (zm_X12_lesser ev2) (Or.inl rfl) mw_25_11 mw_25_12 mw_1_5 mw_25_13 yk_X12_lesser (by decide) (by decide) rfl (Nat.le_of_ble_eq_true rfl) rfl dX12_pairsUp_7 ?_
    refine z_sI hf dX12_pairsUp_10  (fun d3 hf => ?_)
    refine z_aload_n 0 dX12_pairsUp_11 rfl rfl ?_
    refine z_gP (ci := 12) (k := 23) (C := RX12) (T := TX12) (N := 32) rfl inlX12 (by decide) mw_7_9 (fun _ _ _ _ h9 => h9) hf (by decide) rfl dX12_pairsUp_12  (fun v4 hf => ?_)
    refine z_iload_n 1 dX12_pairsUp_15 rfl rfl ?_
    refine z_iload_n 2 dX12_pairsUp_16 rfl rfl ?_
    refine z_iload_n 3 dX12_pairsUp_17 rfl rfl ?_
    refine z_iadd dX12_pairsUp_18 ?_
    refine z_iload_n 2 dX12_pairsUp_19 rfl rfl ?_
    refine z_iload_n 3 dX12_pairsUp_20 rfl rfl ?_
    obtain ⟨v5, ev5, hf⟩ := ob hf
    refine z_cTi (As := [.int l2, .int l3]) (rest := [.int (l2 + l3), .int l1, .ref v4]) (zm_X12_lesser ev5) (Or.inl rfl) mw_25_11 mw_25_12 mw_1_5 mw_25_13 yk_X12_lesser (by decide) (by decide) rfl (Nat.le_of_ble_eq_true rfl) rfl dX12_pairsUp_21 ?_
    refine z_isub dX12_pairsUp_24 ?_
    refine z_sI hf dX12_pairsUp_25  (fun d6 hf => ?_)
    cases hf
    exact z_return hE rfl dX12_pairsUp_26
  · cases hf
set_option maxRecDepth 20000 in
theorem zb_X12_isExchanged_163 {N : Nat} {sh : Sh} {r : Int32 × Dt} {E : EV} (hE : TG E (some (.int r.1)) (sh, r.2))   {d : Dt} (hf : f_X12_isExchanged_163 N sh  d = some r) : Z E yX12_isExchanged cX12_isExchanged 8 (some .boolean) 3 (sh, d) 163 [] [] := by
  unfold f_X12_isExchanged_163 at hf
  refine z_iconst 0 0 dX12_isExchanged_163 (by decide) ?_
  cases hf
  exact z_zreturn hE rfl (by decide) dX12_isExchanged_164
set_option maxRecDepth 20000 in
theorem zb_X12_isExchanged_157 {N : Nat} {sh : Sh} {k2 : Nat → Int32 → Dt → Option (Int32 × Dt)} {r : Int32 × Dt} {E : EV} (hE : TG E (some (.int r.1)) (sh, r.2)) (hk2 : ∀ (l0 : Nat) (l1 : Int32) (d : Dt), k2 l0 l1 d = some r → Z E yX12_isExchanged cX12_isExchanged 8 (some .boolean) 3 (sh, d) 2 [(0, .ref l0), (1, .int l1)] []) {l0 : Nat} {l1 : Int32} {d : Dt} (hf : f_X12_isExchanged_157 N sh k2 l0 l1 d = some r) : Z E yX12_isExchanged cX12_isExchanged 8 (some .boolean) 3 (sh, d) 157 [(0, .ref l0), (1, .int l1)] [] := by
  unfold f_X12_isExchanged_157 at hf
  refine z_iinc [(1, .int (l1 + 1)), (0, .ref l0)] 1 (l1 + 1) dX12_isExchanged_157 rfl rfl (by decide) rfl ?_
  refine z_goto 2 dX12_isExchanged_160 (by decide) ?_
  refine z_lv [(0, .ref l0), (1, .int (l1 + 1))] [1, 0] rfl ?_
  exact hk2 _ _ _ hf
set_option maxRecDepth 20000 in
theorem zb_X12_isExchanged_132 {N : Nat} {sh : Sh} {r : Int32 × Dt} {E : EV} (hE : TG E (some (.int r.1)) (sh, r.2))  {l0 : Nat} {l1 : Int32} {l2 : Int32} {l3 : Int32} {l4 : Int32} {l5 : Int32} {l6 : Int32} {d : Dt} (hf : f_X12_isExchanged_132 N sh l0 l1 l2 l3 l4 l5 l6 d = some r) : Z E yX12_isExchanged cX12_isExchanged 8 (some .boolean) 3 (sh, d) 132 [(0, .ref l0), (1, .int l1), (2, .int l2), (3, .int l3), (4, .int l4), (5, .int l5), (6, .int l6)] [] := by
  unfold f_X12_isExchanged_132 at hf
  refine z_aload_n 0 dX12_isExchanged_132 rfl rfl ?_
  refine z_iload_n 1 dX12_isExchanged_133 rfl rfl ?_
  refine z_iload_n 3 dX12_isExchanged_134 rfl rfl ?_
  refine z_iload 6 dX12_isExchanged_135 rfl ?_
  obtain ⟨v17, ev17, hf⟩ := ob hf
  refine z_cVv (ci := 12) (T := TX12) (N := 32) (As := [.int l1, .int l3, .int l6]) (rest := []) (zm_X12_pairsUp ev17).2 (zm_X12_pairsUp ev17).1 (by decide) rfl (Or.inl rfl) mw_50_13 mw_50_14 mw_50_15 mw_1_5 mw_50_16 yk_X12_pairsUp (by decide) (by decide) rfl (Nat.le_of_ble_eq_true rfl) rfl dX12_isExchanged_137 ?_
  refine z_aload_n 0 dX12_isExchanged_140 rfl rfl ?_
  refine z_iload_n 2 dX12_isExchanged_141 rfl rfl ?_
  refine z_iload 4 dX12_isExchanged_142 rfl ?_
  refine z_iload 5 dX12_isExchanged_144 rfl ?_
  obtain ⟨v18, ev18, hf⟩ := ob hf
  refine z_cVv (ci := 12) (T := TX12) (N := 32) (As := [.int l2, .int l4, .int l5]) (rest := []) (zm_X12_pairsUp ev18).2 (zm_X12_pairsUp ev18).1 (by decide) rfl (Or.inl rfl) mw_50_13 mw_50_14 mw_50_15 mw_1_5 mw_50_16 yk_X12_pairsUp (by decide) (by decide) rfl (Nat.le_of_ble_eq_true rfl) rfl dX12_isExchanged_146 ?_
  refine z_iconst 1 1 dX12_isExchanged_149 (by decide) ?_
  cases hf
  exact z_zreturn hE rfl (by decide) dX12_isExchanged_150
set_option maxRecDepth 20000 in
theorem zb_X12_isExchanged_92 {N : Nat} {sh : Sh} {r : Int32 × Dt} {E : EV} (hE : TG E (some (.int r.1)) (sh, r.2))  {l0 : Nat} {l1 : Int32} {l2 : Int32} {l3 : Int32} {l4 : Int32} {l5 : Int32} {l6 : Int32} {d : Dt} (hf : f_X12_isExchanged_92 N sh l0 l1 l2 l3 l4 l5 l6 d = some r) : Z E yX12_isExchanged cX12_isExchanged 8 (some .boolean) 3 (sh, d) 92 [(0, .ref l0), (1, .int l1), (2, .int l2), (3, .int l3), (4, .int l4), (5, .int l5), (6, .int l6)] [] := by
  unfold f_X12_isExchanged_92 at hf
  refine z_aload_n 0 dX12_isExchanged_92 rfl rfl ?_
  refine z_iload_n 1 dX12_isExchanged_93 rfl rfl ?_
  refine z_iload_n 3 dX12_isExchanged_94 rfl rfl ?_
  refine z_iload 5 dX12_isExchanged_95 rfl ?_
  obtain ⟨v19, ev19, hf⟩ := ob hf
  refine z_cVv (ci := 12) (T := TX12) (N := 32) (As := [.int l1, .int l3, .int l5]) (rest := []) (zm_X12_pairsUp ev19).2 (zm_X12_pairsUp ev19).1 (by decide) rfl (Or.inl rfl) mw_50_13 mw_50_14 mw_50_15 mw_1_5 mw_50_16 yk_X12_pairsUp (by decide) (by decide) rfl (Nat.le_of_ble_eq_true rfl) rfl dX12_isExchanged_97 ?_
  refine z_aload_n 0 dX12_isExchanged_100 rfl rfl ?_
  refine z_iload_n 2 dX12_isExchanged_101 rfl rfl ?_
  refine z_iload 4 dX12_isExchanged_102 rfl ?_
  refine z_iload 6 dX12_isExchanged_104 rfl ?_
  obtain ⟨v20, ev20, hf⟩ := ob hf
  refine z_cVv (ci := 12) (T := TX12) (N := 32) (As := [.int l2, .int l4, .int l6]) (rest := []) (zm_X12_pairsUp ev20).2 (zm_X12_pairsUp ev20).1 (by decide) rfl (Or.inl rfl) mw_50_13 mw_50_14 mw_50_15 mw_1_5 mw_50_16 yk_X12_pairsUp (by decide) (by decide) rfl (Nat.le_of_ble_eq_true rfl) rfl dX12_isExchanged_106 ?_
  refine z_iconst 1 1 dX12_isExchanged_109 (by decide) ?_
  cases hf
  exact z_zreturn hE rfl (by decide) dX12_isExchanged_110
set_option maxRecDepth 20000 in
theorem zg_X12_isExchanged_14 {N : Nat} {sh : Sh} {k2 : Nat → Int32 → Dt → Option (Int32 × Dt)} {r : Int32 × Dt} {k14 : Nat → Int32 → Int32 → Dt → Option (Int32 × Dt)} {E : EV} (hE : TG E (some (.int r.1)) (sh, r.2)) (hk2 : ∀ (l0 : Nat) (l1 : Int32) (d : Dt), k2 l0 l1 d = some r → Z E yX12_isExchanged cX12_isExchanged 8 (some .boolean) 3 (sh, d) 2 [(0, .ref l0), (1, .int l1)] []) (hk14 : ∀ (l0 : Nat) (l1 : Int32) (l2 : Int32) (d : Dt), k14 l0 l1 l2 d = some r → Z E yX12_isExchanged cX12_isExchanged 8 (some .boolean) 3 (sh, d) 14 [(0, .ref l0), (1, .int l1), (2, .int l2)] []) {l0 : Nat} {l1 : Int32} {l2 : Int32} {d : Dt} (hf : g_X12_isExchanged_14 N sh k2 k14 l0 l1 l2 d = some r) : Z E yX12_isExchanged cX12_isExchanged 8 (some .boolean) 3 (sh, d) 14 [(0, .ref l0), (1, .int l1), (2, .int l2)] [] := by
  unfold g_X12_isExchanged_14 at hf
  refine z_iload_n 2 dX12_isExchanged_14 rfl rfl ?_
  refine z_aload_n 0 dX12_isExchanged_15 rfl rfl ?_
  refine z_gI (ci := 12) (k := 21) (C := RX12) (T := TX12) (N := 32) rfl inlX12 (by decide) mw_48_19 (fun _ _ _ _ h9 => h9) hf (by decide) rfl dX12_isExchanged_16  (fun v2 hf => ?_)
  refine z_icmp_ge 157 hf dX12_isExchanged_19 (by decide) (fun hf => ?_) (fun hf => ?_)
  · refine z_lv [(0, .ref l0), (1, .int l1)] [0, 1] rfl ?_
    exact zb_X12_isExchanged_157 hE hk2 hf
  · refine z_aload_n 0 dX12_isExchanged_22 rfl rfl ?_
    refine z_gP (ci := 12) (k := 22) (C := RX12) (T := TX12) (N := 32) rfl inlX12 (by decide) mw_7_8 (fun _ _ _ _ h9 => h9) hf (by decide) rfl dX12_isExchanged_23  (fun v3 hf => ?_)
    refine z_iload_n 1 dX12_isExchanged_26 rfl rfl ?_
    refine z_aI hf dX12_isExchanged_27  (fun v4 hf => ?_)
    refine z_istore_n [(3, .int v4), (0, .ref l0), (1, .int l1), (2, .int l2)] dX12_isExchanged_28 rfl (by decide) rfl ?_
    refine z_aload_n 1 dX12_isExchanged_29 rfl rfl ?_
    refine z_gP (ci := 12) (k := 23) (C := RX12) (T := TX12) (N := 32) rfl inlX12 (by decide) mw_7_9 (fun _ _ _ _ h9 => h9) hf (by decide) rfl dX12_isExchanged_30  (fun v5 hf => ?_)
    refine z_iload_n 2 dX12_isExchanged_33 rfl rfl ?_
    refine z_aI hf dX12_isExchanged_34  (fun v6 hf => ?_)
    refine z_istore [(4, .int v6), (3, .int v4), (0, .ref l0), (1, .int l1), (2, .int l2)] dX12_isExchanged_35 (by decide) rfl ?_
    refine z_aload_n 2 dX12_isExchanged_37 rfl rfl ?_
    refine z_gP (ci := 12) (k := 22) (C := RX12) (T := TX12) (N := 32) rfl inlX12 (by decide) mw_7_8 (fun _ _ _ _ h9 => h9) hf (by decide) rfl dX12_isExchanged_38  (fun v7 hf => ?_)
    refine z_iload_n 4 dX12_isExchanged_41 rfl rfl ?_
    refine z_aI hf dX12_isExchanged_42  (fun v8 hf => ?_)
    refine z_istore [(5, .int v8), (4, .int v6), (3, .int v4), (0, .ref l0), (1, .int l1), (2, .int l2)] dX12_isExchanged_43 (by decide) rfl ?_
    refine z_aload_n 3 dX12_isExchanged_45 rfl rfl ?_
    refine z_gP (ci := 12) (k := 23) (C := RX12) (T := TX12) (N := 32) rfl inlX12 (by decide) mw_7_9 (fun _ _ _ _ h9 => h9) hf (by decide) rfl dX12_isExchanged_46  (fun v9 hf => ?_)
    refine z_iload_n 5 dX12_isExchanged_49 rfl rfl ?_
    refine z_aI hf dX12_isExchanged_50  (fun v10 hf => ?_)
    refine z_istore [(6, .int v10), (5, .int v8), (4, .int v6), (3, .int v4), (0, .ref l0), (1, .int l1), (2, .int l2)] dX12_isExchanged_51 (by decide) rfl ?_
    refine z_aload_n 4 dX12_isExchanged_53 rfl rfl ?_
    refine z_iload_n 3 dX12_isExchanged_54 rfl rfl ?_
    refine z_iload 2 dX12_isExchanged_55 rfl ?_
    obtain ⟨v11, ev11, hf⟩ := ob hf
    refine z_cVi (ci := 12) (T := TX12) (N := 32) (As := [.int v4, .int v6]) (rest := []) (zm_X12_between ev11).2 (zm_X12_between ev11).1 (by decide) rfl (Or.inl rfl) mw_42_23 mw_43_0 mw_43_1 mw_1_5 mw_43_2 yk_X12_between (by decide) (by decide) rfl (Nat.le_of_ble_eq_true rfl) rfl dX12_isExchanged_57 ?_
    refine z_aload_n 4 dX12_isExchanged_60 rfl rfl ?_
    refine z_iload 1 dX12_isExchanged_61 rfl ?_
    refine z_iload 0 dX12_isExchanged_63 rfl ?_
    obtain ⟨v12, ev12, hf⟩ := ob hf
    refine z_cVi (ci := 12) (T := TX12) (N := 32) (As := [.int v8, .int v10]) (rest := [.int v11]) (zm_X12_between ev12).2 (zm_X12_between ev12).1 (by decide) rfl (Or.inl rfl) mw_42_23 mw_43_0 mw_43_1 mw_1_5 mw_43_2 yk_X12_between (by decide) (by decide) rfl (Nat.le_of_ble_eq_true rfl) rfl dX12_isExchanged_65 ?_
    refine z_iadd dX12_isExchanged_68 ?_
    refine z_istore [(7, .int (v11 + v12)), (6, .int v10), (5, .int v8), (4, .int v6), (3, .int v4), (0, .ref l0), (1, .int l1), (2, .int l2)] dX12_isExchanged_69 (by decide) rfl ?_
    refine z_aload_n 5 dX12_isExchanged_71 rfl rfl ?_
    refine z_iload_n 4 dX12_isExchanged_72 rfl rfl ?_
    refine z_iload 2 dX12_isExchanged_73 rfl ?_
    obtain ⟨v13, ev13, hf⟩ := ob hf
    refine z_cVi (ci := 12) (T := TX12) (N := 32) (As := [.int v4, .int v8]) (rest := []) (zm_X12_between ev13).2 (zm_X12_between ev13).1 (by decide) rfl (Or.inl rfl) mw_42_23 mw_43_0 mw_43_1 mw_1_5 mw_43_2 yk_X12_between (by decide) (by decide) rfl (Nat.le_of_ble_eq_true rfl) rfl dX12_isExchanged_75 ?_
    refine z_aload_n 5 dX12_isExchanged_78 rfl rfl ?_
    refine z_iload 3 dX12_isExchanged_79 rfl ?_
    refine z_iload 1 dX12_isExchanged_81 rfl ?_
    obtain ⟨v14, ev14, hf⟩ := ob hf
    refine z_cVi (ci := 12) (T := TX12) (N := 32) (As := [.int v6, .int v10]) (rest := [.int v13]) (zm_X12_between ev14).2 (zm_X12_between ev14).1 (by decide) rfl (Or.inl rfl) mw_42_23 mw_43_0 mw_43_1 mw_1_5 mw_43_2 yk_X12_between (by decide) (by decide) rfl (Nat.le_of_ble_eq_true rfl) rfl dX12_isExchanged_83 ?_
    refine z_iadd dX12_isExchanged_86 ?_
    refine z_iload 0 dX12_isExchanged_87 rfl ?_
    refine z_icmp_ge 111 hf dX12_isExchanged_89 (by decide) (fun hf => ?_) (fun hf => ?_)
    · refine z_aload_n 5 dX12_isExchanged_111 rfl rfl ?_
      refine z_iload_n 4 dX12_isExchanged_112 rfl rfl ?_
      refine z_iload 1 dX12_isExchanged_113 rfl ?_
      obtain ⟨v15, ev15, hf⟩ := ob hf
      refine z_cVi (ci := 12) (T := TX12) (N := 32) (As := [.int v4, .int v10]) (rest := []) (zm_X12_between ev15).2 (zm_X12_between ev15).1 (by decide) rfl (Or.inl rfl) mw_42_23 mw_43_0 mw_43_1 mw_1_5 mw_43_2 yk_X12_between (by decide) (by decide) rfl (Nat.le_of_ble_eq_true rfl) rfl dX12_isExchanged_115 ?_
      refine z_aload_n 5 dX12_isExchanged_118 rfl rfl ?_
      refine z_iload 3 dX12_isExchanged_119 rfl ?_
      refine z_iload 2 dX12_isExchanged_121 rfl ?_
      obtain ⟨v16, ev16, hf⟩ := ob hf
      refine z_cVi (ci := 12) (T := TX12) (N := 32) (As := [.int v6, .int v8]) (rest := [.int v15]) (zm_X12_between ev16).2 (zm_X12_between ev16).1 (by decide) rfl (Or.inl rfl) mw_42_23 mw_43_0 mw_43_1 mw_1_5 mw_43_2 yk_X12_between (by decide) (by decide) rfl (Nat.le_of_ble_eq_true rfl) rfl dX12_isExchanged_123 ?_
      refine z_iadd dX12_isExchanged_126 ?_
      refine z_iload 0 dX12_isExchanged_127 rfl ?_
      refine z_icmp_ge 151 hf dX12_isExchanged_129 (by decide) (fun hf => ?_) (fun hf => ?_)
      · refine z_iinc [(2, .int (l2 + 1)), (7, .int (v11 + v12)), (6, .int v10), (5, .int v8), (4, .int v6), (3, .int v4), (0, .ref l0), (1, .int l1)] 7 (l2 + 1) dX12_isExchanged_151 rfl rfl (by decide) rfl ?_
        refine z_goto 14 dX12_isExchanged_154 (by decide) ?_
        refine z_lv [(0, .ref l0), (1, .int l1), (2, .int (l2 + 1))] [6, 7, 0] rfl ?_
        exact hk14 _ _ _ _ hf
      · refine z_lv [(0, .ref l0), (1, .int l1), (2, .int l2), (3, .int v4), (4, .int v6), (5, .int v8), (6, .int v10)] [5, 6, 7, 4, 3, 2, 1] rfl ?_
        exact zb_X12_isExchanged_132 hE hf
    · refine z_lv [(0, .ref l0), (1, .int l1), (2, .int l2), (3, .int v4), (4, .int v6), (5, .int v8), (6, .int v10)] [5, 6, 7, 4, 3, 2, 1] rfl ?_
      exact zb_X12_isExchanged_92 hE hf
set_option maxRecDepth 20000 in
theorem zb_X12_isExchanged_14 {N : Nat} {sh : Sh} {k2 : Nat → Int32 → Dt → Option (Int32 × Dt)} {r : Int32 × Dt} {E : EV} (hE : TG E (some (.int r.1)) (sh, r.2)) (hk2 : ∀ (l0 : Nat) (l1 : Int32) (d : Dt), k2 l0 l1 d = some r → Z E yX12_isExchanged cX12_isExchanged 8 (some .boolean) 3 (sh, d) 2 [(0, .ref l0), (1, .int l1)] []) : ∀ (n : Nat) (l0 : Nat) (l1 : Int32) (l2 : Int32) (d : Dt), f_X12_isExchanged_14 N sh k2 n l0 l1 l2 d = some r → Z E yX12_isExchanged cX12_isExchanged 8 (some .boolean) 3 (sh, d) 14 [(0, .ref l0), (1, .int l1), (2, .int l2)] [] := by
  intro n
  induction n with
  | zero => intro l0 l1 l2 d hf; cases hf
  | succ n ih => intro l0 l1 l2 d hf; exact zg_X12_isExchanged_14 hE hk2 ih hf
set_option maxRecDepth 20000 in
theorem zg_X12_isExchanged_2 {N : Nat} {sh : Sh} {r : Int32 × Dt} {k2 : Nat → Int32 → Dt → Option (Int32 × Dt)} {E : EV} (hE : TG E (some (.int r.1)) (sh, r.2))  (hk2 : ∀ (l0 : Nat) (l1 : Int32) (d : Dt), k2 l0 l1 d = some r → Z E yX12_isExchanged cX12_isExchanged 8 (some .boolean) 3 (sh, d) 2 [(0, .ref l0), (1, .int l1)] []) {l0 : Nat} {l1 : Int32} {d : Dt} (hf : g_X12_isExchanged_2 N sh k2 l0 l1 d = some r) : Z E yX12_isExchanged cX12_isExchanged 8 (some .boolean) 3 (sh, d) 2 [(0, .ref l0), (1, .int l1)] [] := by
  unfold g_X12_isExchanged_2 at hf
  refine z_iload_n 1 dX12_isExchanged_2 rfl rfl ?_
  refine z_aload_n 0 dX12_isExchanged_3 rfl rfl ?_
  refine z_gI (ci := 12) (k := 21) (C := RX12) (T := TX12) (N := 32) rfl inlX12 (by decide) mw_48_19 (fun _ _ _ _ h9 => h9) hf (by decide) rfl dX12_isExchanged_4  (fun v1 hf => ?_)
  refine z_icmp_ge 163 hf dX12_isExchanged_7 (by decide) (fun hf => ?_) (fun hf => ?_)
  · refine z_lv [] [] rfl ?_
    exact zb_X12_isExchanged_163 hE hf
  · refine z_iload_n 1 dX12_isExchanged_10 rfl rfl ?_
    refine z_iconst 1 1 dX12_isExchanged_11 (by decide) ?_
    refine z_iadd dX12_isExchanged_12 ?_
    refine z_istore_n [(2, .int (l1 + (1 : Int32))), (0, .ref l0), (1, .int l1)] dX12_isExchanged_13 rfl (by decide) rfl ?_
    refine z_lv [(0, .ref l0), (1, .int l1), (2, .int (l1 + (1 : Int32)))] [1, 2, 0] rfl ?_
    exact zb_X12_isExchanged_14 hE hk2 N _ _ _ _ hf
set_option maxRecDepth 20000 in
theorem zb_X12_isExchanged_2 {N : Nat} {sh : Sh} {r : Int32 × Dt} {E : EV} (hE : TG E (some (.int r.1)) (sh, r.2))  : ∀ (n : Nat) (l0 : Nat) (l1 : Int32) (d : Dt), f_X12_isExchanged_2 N sh n l0 l1 d = some r → Z E yX12_isExchanged cX12_isExchanged 8 (some .boolean) 3 (sh, d) 2 [(0, .ref l0), (1, .int l1)] [] := by
  intro n
  induction n with
  | zero => intro l0 l1 d hf; cases hf
  | succ n ih => intro l0 l1 d hf; exact zg_X12_isExchanged_2 hE ih hf
set_option maxRecDepth 20000 in
theorem zm_X12_isExchanged {N : Nat} {sh : Sh} {d : Dt} {l0 : Nat} {r : Int32 × Dt} (hf : f_X12_isExchanged N sh l0 d = some r) : isO sh l0 12 ∧ ∀ (l : Launch) (G : GG), Mt l G yX12_isExchanged cX12_isExchanged 8 (some .boolean) 3 [.ref l0] (sh, d) (some (.int r.1)) (sh, r.2) := by
  have hf0 := hf
  unfold f_X12_isExchanged at hf
  refine ite_d hf (fun hO hf => ?_) (fun _ hf => ?_)
  · refine ⟨hO, fun l G => mt_of (Or.inl (by decide)) (Nat.le_of_ble_eq_true rfl) Le.rf (fun E hE => ?_)⟩
    show Z E yX12_isExchanged cX12_isExchanged 8 (some .boolean) 3 (sh, d) 0 [(0, .ref l0)] []
    refine z_iconst 0 0 dX12_isExchanged_0 (by decide) ?_
    refine z_istore_n [(1, .int (0 : Int32)), (0, .ref l0)] dX12_isExchanged_1 rfl (by decide) rfl ?_
    refine z_lv [(0, .ref l0), (1, .int (0 : Int32))] [1, 0] rfl ?_
    exact zb_X12_isExchanged_2 hE N _ _ _ hf
  · cases hf
set_option maxRecDepth 20000 in
theorem zb_X12_isOneWay_54 {N : Nat} {sh : Sh} {d : Dt} {r : Int32} {E : EV} (hE : TG E (some (.int r)) (sh, d))  {l1 : Int32} (hf : f_X12_isOneWay_54 N sh l1 d = some r) : Z E yX12_isOneWay cX12_isOneWay 3 (some .boolean) 3 (sh, d) 54 [(1, .int l1)] [] := by
  unfold f_X12_isOneWay_54 at hf
  refine z_iload_n 0 dX12_isOneWay_54 rfl rfl ?_
  obtain ⟨v7, ev7, hg⟩ := ob hf
  obtain ⟨rfl, hbv7⟩ := o_bool_spec ev7
  cases hg
  exact z_zreturn hE rfl hbv7 dX12_isOneWay_55
set_option maxRecDepth 20000 in
theorem zb_X12_isOneWay_47 {N : Nat} {sh : Sh} {d : Dt} {k4 : Nat → Int32 → Int32 → Option Int32} {r : Int32} {E : EV} (hE : TG E (some (.int r)) (sh, d)) (hk4 : ∀ (l0 : Nat) (l1 : Int32) (l2 : Int32), k4 l0 l1 l2 = some r → Z E yX12_isOneWay cX12_isOneWay 3 (some .boolean) 3 (sh, d) 4 [(0, .ref l0), (1, .int l1), (2, .int l2)] []) {l0 : Nat} {l2 : Int32} {t0 : Int32} (hf : f_X12_isOneWay_47 N sh k4 l0 l2 t0 d = some r) : Z E yX12_isOneWay cX12_isOneWay 3 (some .boolean) 3 (sh, d) 47 [(0, .ref l0), (2, .int l2)] [.int t0] := by
  unfold f_X12_isOneWay_47 at hf
  refine z_istore_n [(1, .int t0), (0, .ref l0), (2, .int l2)] dX12_isOneWay_47 rfl (by decide) rfl ?_
  refine z_iinc [(2, .int (l2 + 1)), (1, .int t0), (0, .ref l0)] 2 (l2 + 1) dX12_isOneWay_48 rfl rfl (by decide) rfl ?_
  refine z_goto 4 dX12_isOneWay_51 (by decide) ?_
  refine z_lv [(0, .ref l0), (1, .int t0), (2, .int (l2 + 1))] [2, 1, 0] rfl ?_
  exact hk4 _ _ _ hf
set_option maxRecDepth 20000 in
theorem zb_X12_isOneWay_42 {N : Nat} {sh : Sh} {d : Dt} {k4 : Nat → Int32 → Int32 → Option Int32} {r : Int32} {E : EV} (hE : TG E (some (.int r)) (sh, d)) (hk4 : ∀ (l0 : Nat) (l1 : Int32) (l2 : Int32), k4 l0 l1 l2 = some r → Z E yX12_isOneWay cX12_isOneWay 3 (some .boolean) 3 (sh, d) 4 [(0, .ref l0), (1, .int l1), (2, .int l2)] []) {l0 : Nat} {l2 : Int32} (hf : f_X12_isOneWay_42 N sh k4 l0 l2 d = some r) : Z E yX12_isOneWay cX12_isOneWay 3 (some .boolean) 3 (sh, d) 42 [(0, .ref l0), (2, .int l2)] [] := by
  unfold f_X12_isOneWay_42 at hf
  refine z_iconst 1 1 dX12_isOneWay_42 (by decide) ?_
  refine z_goto 47 dX12_isOneWay_43 (by decide) ?_
  exact zb_X12_isOneWay_47 hE hk4 hf
set_option maxRecDepth 20000 in
theorem zb_X12_isOneWay_46 {N : Nat} {sh : Sh} {d : Dt} {k4 : Nat → Int32 → Int32 → Option Int32} {r : Int32} {E : EV} (hE : TG E (some (.int r)) (sh, d)) (hk4 : ∀ (l0 : Nat) (l1 : Int32) (l2 : Int32), k4 l0 l1 l2 = some r → Z E yX12_isOneWay cX12_isOneWay 3 (some .boolean) 3 (sh, d) 4 [(0, .ref l0), (1, .int l1), (2, .int l2)] []) {l0 : Nat} {l2 : Int32} (hf : f_X12_isOneWay_46 N sh k4 l0 l2 d = some r) : Z E yX12_isOneWay cX12_isOneWay 3 (some .boolean) 3 (sh, d) 46 [(0, .ref l0), (2, .int l2)] [] := by
  unfold f_X12_isOneWay_46 at hf
  refine z_iconst 0 0 dX12_isOneWay_46 (by decide) ?_
  exact zb_X12_isOneWay_47 hE hk4 hf
set_option maxRecDepth 20000 in
theorem zg_X12_isOneWay_4 {N : Nat} {sh : Sh} {d : Dt} {r : Int32} {k4 : Nat → Int32 → Int32 → Option Int32} {E : EV} (hE : TG E (some (.int r)) (sh, d))  (hk4 : ∀ (l0 : Nat) (l1 : Int32) (l2 : Int32), k4 l0 l1 l2 = some r → Z E yX12_isOneWay cX12_isOneWay 3 (some .boolean) 3 (sh, d) 4 [(0, .ref l0), (1, .int l1), (2, .int l2)] []) {l0 : Nat} {l1 : Int32} {l2 : Int32} (hf : g_X12_isOneWay_4 N sh k4 l0 l1 l2 d = some r) : Z E yX12_isOneWay cX12_isOneWay 3 (some .boolean) 3 (sh, d) 4 [(0, .ref l0), (1, .int l1), (2, .int l2)] [] := by
  unfold g_X12_isOneWay_4 at hf
  refine z_iload_n 2 dX12_isOneWay_4 rfl rfl ?_
  refine z_aload_n 0 dX12_isOneWay_5 rfl rfl ?_
  refine z_gP (ci := 12) (k := 0) (C := RX12) (T := TX12) (N := 32) rfl inlX12 (by decide) mw_6_19 (fun _ _ _ _ h9 => h9) hf (by decide) rfl dX12_isOneWay_6  (fun v1 hf => ?_)
  refine z_iconst 1 1 dX12_isOneWay_9 (by decide) ?_
  refine z_aI hf dX12_isOneWay_10  (fun v2 hf => ?_)
  refine z_icmp_ge 54 hf dX12_isOneWay_11 (by decide) (fun hf => ?_) (fun hf => ?_)
  · refine z_lv [(1, .int l1)] [1] rfl ?_
    exact zb_X12_isOneWay_54 hE hf
  · refine z_iload_n 1 dX12_isOneWay_14 rfl rfl ?_
    refine z_if_ne 42 hf dX12_isOneWay_15 (by decide) (fun hf => ?_) (fun hf => ?_)
    · refine z_lv [(0, .ref l0), (2, .int l2)] [0, 2] rfl ?_
      exact zb_X12_isOneWay_42 hE hk4 hf
    · refine z_aload_n 0 dX12_isOneWay_18 rfl rfl ?_
      refine z_iload_n 2 dX12_isOneWay_19 rfl rfl ?_
      obtain ⟨v3, ev3, hf⟩ := ob hf
      refine z_cVi (ci := 12) (T := TX12) (N := 32) (As := [.int l2]) (rest := []) (zm_X12_isOpen ev3).2 (zm_X12_isOpen ev3).1 (by decide) rfl (Or.inl rfl) mw_18_4 mw_18_5 mw_18_6 mw_1_5 mw_18_7 yk_X12_isOpen (by decide) (by decide) rfl (Nat.le_of_ble_eq_true rfl) rfl dX12_isOneWay_20 ?_
      refine z_if_eq 46 hf dX12_isOneWay_23 (by decide) (fun hf => ?_) (fun hf => ?_)
      · refine z_lv [(0, .ref l0), (2, .int l2)] [0, 2] rfl ?_
        exact zb_X12_isOneWay_46 hE hk4 hf
      · refine z_aload_n 0 dX12_isOneWay_26 rfl rfl ?_
        refine z_gP (ci := 12) (k := 0) (C := RX12) (T := TX12) (N := 32) rfl inlX12 (by decide) mw_6_19 (fun _ _ _ _ h9 => h9) hf (by decide) rfl dX12_isOneWay_27  (fun v4 hf => ?_)
        refine z_aload_n 0 dX12_isOneWay_30 rfl rfl ?_
        refine z_iload_n 2 dX12_isOneWay_31 rfl rfl ?_
        obtain ⟨v5, ev5, hf⟩ := ob hf
        refine z_cVi (ci := 12) (T := TX12) (N := 32) (As := [.int l2]) (rest := [.ref v4]) (zm_X12_st ev5).2 (zm_X12_st ev5).1 (by decide) rfl (Or.inl rfl) mw_13_10 mw_13_11 mw_13_12 mw_1_5 mw_13_13 yk_X12_st (by decide) (by decide) rfl (Nat.le_of_ble_eq_true rfl) rfl dX12_isOneWay_32 ?_
        refine z_iconst 5 5 dX12_isOneWay_35 (by decide) ?_
        refine z_iadd dX12_isOneWay_36 ?_
        refine z_aI hf dX12_isOneWay_37  (fun v6 hf => ?_)
        refine z_iconst 1 1 dX12_isOneWay_38 (by decide) ?_
        refine z_icmp_ne 46 hf dX12_isOneWay_39 (by decide) (fun hf => ?_) (fun hf => ?_)
        · refine z_lv [(0, .ref l0), (2, .int l2)] [0, 2] rfl ?_
          exact zb_X12_isOneWay_46 hE hk4 hf
        · refine z_lv [(0, .ref l0), (2, .int l2)] [0, 2] rfl ?_
          exact zb_X12_isOneWay_42 hE hk4 hf
set_option maxRecDepth 20000 in
theorem zb_X12_isOneWay_4 {N : Nat} {sh : Sh} {d : Dt} {r : Int32} {E : EV} (hE : TG E (some (.int r)) (sh, d))  : ∀ (n : Nat) (l0 : Nat) (l1 : Int32) (l2 : Int32), f_X12_isOneWay_4 N sh d n l0 l1 l2 = some r → Z E yX12_isOneWay cX12_isOneWay 3 (some .boolean) 3 (sh, d) 4 [(0, .ref l0), (1, .int l1), (2, .int l2)] [] := by
  intro n
  induction n with
  | zero => intro l0 l1 l2 hf; cases hf
  | succ n ih => intro l0 l1 l2 hf; exact zg_X12_isOneWay_4 hE ih hf
set_option maxRecDepth 20000 in
theorem zm_X12_isOneWay {N : Nat} {sh : Sh} {d : Dt} {l0 : Nat} {r : Int32} (hf : f_X12_isOneWay N sh l0 d = some r) : isO sh l0 12 ∧ ∀ (l : Launch) (G : GG), Mt l G yX12_isOneWay cX12_isOneWay 3 (some .boolean) 3 [.ref l0] (sh, d) (some (.int r)) (sh, d) := by
  have hf0 := hf
  unfold f_X12_isOneWay at hf
  refine ite_d hf (fun hO hf => ?_) (fun _ hf => ?_)
  · refine ⟨hO, fun l G => mt_of (Or.inl (by decide)) (Nat.le_of_ble_eq_true rfl) Le.rf (fun E hE => ?_)⟩
    show Z E yX12_isOneWay cX12_isOneWay 3 (some .boolean) 3 (sh, d) 0 [(0, .ref l0)] []
    refine z_iconst 0 0 dX12_isOneWay_0 (by decide) ?_
    refine z_istore_n [(1, .int (0 : Int32)), (0, .ref l0)] dX12_isOneWay_1 rfl (by decide) rfl ?_
    refine z_iconst 0 0 dX12_isOneWay_2 (by decide) ?_
    refine z_istore_n [(2, .int (0 : Int32)), (1, .int (0 : Int32)), (0, .ref l0)] dX12_isOneWay_3 rfl (by decide) rfl ?_
    refine z_lv [(0, .ref l0), (1, .int (0 : Int32)), (2, .int (0 : Int32))] [2, 1, 0] rfl ?_
    exact zb_X12_isOneWay_4 hE N _ _ _ hf
  · cases hf
set_option maxRecDepth 20000 in
theorem zb_X12_joinsAll_186 {N : Nat} {sh : Sh} {r : Int32 × Dt} {E : EV} (hE : TG E (some (.int r.1)) (sh, r.2))   {d : Dt} (hf : f_X12_joinsAll_186 N sh  d = some r) : Z E yX12_joinsAll cX12_joinsAll 8 (some .boolean) 5 (sh, d) 186 [] [] := by
  unfold f_X12_joinsAll_186 at hf
  refine z_iconst 1 1 dX12_joinsAll_186 (by decide) ?_
  cases hf
  exact z_zreturn hE rfl (by decide) dX12_joinsAll_187
set_option maxRecDepth 20000 in
theorem zb_X12_joinsAll_155 {N : Nat} {sh : Sh} {r : Int32 × Dt} {E : EV} (hE : TG E (some (.int r.1)) (sh, r.2))   {d : Dt} (hf : f_X12_joinsAll_155 N sh  d = some r) : Z E yX12_joinsAll cX12_joinsAll 8 (some .boolean) 5 (sh, d) 155 [] [] := by
  unfold f_X12_joinsAll_155 at hf
  refine z_iconst 0 0 dX12_joinsAll_155 (by decide) ?_
  cases hf
  exact z_zreturn hE rfl (by decide) dX12_joinsAll_156
set_option maxRecDepth 20000 in
theorem zb_X12_joinsAll_149 {N : Nat} {sh : Sh} {k14 : Nat → Dt → Option (Int32 × Dt)} {r : Int32 × Dt} {E : EV} (hE : TG E (some (.int r.1)) (sh, r.2)) (hk14 : ∀ (l0 : Nat) (d : Dt), k14 l0 d = some r → Z E yX12_joinsAll cX12_joinsAll 8 (some .boolean) 5 (sh, d) 14 [(0, .ref l0)] []) {l0 : Nat} {l1 : Int32} {l2 : Int32} {l3 : Int32} {d : Dt} (hf : f_X12_joinsAll_149 N sh k14 l0 l1 l2 l3 d = some r) : Z E yX12_joinsAll cX12_joinsAll 8 (some .boolean) 5 (sh, d) 149 [(0, .ref l0), (1, .int l1), (2, .int l2), (3, .int l3)] [] := by
  unfold f_X12_joinsAll_149 at hf
  refine z_iload_n 3 dX12_joinsAll_149 rfl rfl ?_
  refine z_ldc mw_17_19 dX12_joinsAll_150 ?_
  refine z_icmp_lt 157 hf dX12_joinsAll_152 (by decide) (fun hf => ?_) (fun hf => ?_)
  · refine z_aload_n 0 dX12_joinsAll_157 rfl rfl ?_
    refine z_iload_n 1 dX12_joinsAll_158 rfl rfl ?_
    refine z_iload_n 2 dX12_joinsAll_159 rfl rfl ?_
    refine z_iconst 2 2 dX12_joinsAll_160 (by decide) ?_
    obtain ⟨v9, ev9, hf⟩ := ob hf
    refine z_cVv (ci := 12) (T := TX12) (N := 32) (As := [.int l1, .int l2, .int (2 : Int32)]) (rest := []) (zm_X12_adds ev9).2 (zm_X12_adds ev9).1 (by decide) rfl (Or.inl rfl) mw_50_5 mw_50_6 mw_50_7 mw_1_5 mw_50_8 yk_X12_adds (by decide) (by decide) rfl (Nat.le_of_ble_eq_true rfl) rfl dX12_joinsAll_161 ?_
    refine z_aload_n 0 dX12_joinsAll_164 rfl rfl ?_
    refine z_dup dX12_joinsAll_165 rfl ?_
    refine z_gI (ci := 12) (k := 19) (C := RX12) (T := TX12) (N := 32) rfl inlX12 (by decide) mw_48_17 (fun _ _ _ _ h9 => h9) hf (by decide) rfl dX12_joinsAll_166  (fun v10 hf => ?_)
    refine z_iconst 1 1 dX12_joinsAll_169 (by decide) ?_
    refine z_iadd dX12_joinsAll_170 ?_
    refine z_pI (ci := 12) (k := 19) (C := RX12) (T := TX12) (N := 32) rfl inlX12 (by decide) mw_48_17 (fun _ _ _ _ h9 => h9) tyX12 tyX12_ok nmX12 rfl hf (Or.inl (by decide)) rfl rfl rfl dX12_joinsAll_171  (fun d11 hf => ?_)
    refine z_aload_n 0 dX12_joinsAll_174 rfl rfl ?_
    refine z_iconst 0 0 dX12_joinsAll_175 (by decide) ?_
    refine z_aload_n 0 dX12_joinsAll_176 rfl rfl ?_
    refine z_gP (ci := 12) (k := 14) (C := RX12) (T := TX12) (N := 32) rfl inlX12 (by decide) mw_7_4 (fun _ _ _ _ h9 => h9) hf (by decide) rfl dX12_joinsAll_177  (fun v12 hf => ?_)
    obtain ⟨v13, ev13, hf⟩ := ob hf
    refine z_cVv (ci := 12) (T := TX12) (N := 32) (As := [.int (0 : Int32), .ref v12]) (rest := []) (zm_X12_follows ev13).2 (zm_X12_follows ev13).1 (by decide) rfl (Or.inl rfl) mw_49_17 mw_49_18 mw_49_19 mw_1_5 mw_49_20 yk_X12_follows (by decide) (by decide) rfl (Nat.le_of_ble_eq_true rfl) rfl dX12_joinsAll_180 ?_
    refine z_goto 14 dX12_joinsAll_183 (by decide) ?_
    refine z_lv [(0, .ref l0)] [0] rfl ?_
    exact hk14 _ _ hf
  · refine z_lv [] [] rfl ?_
    exact zb_X12_joinsAll_155 hE hf
set_option maxRecDepth 20000 in
theorem zb_X12_joinsAll_143 {N : Nat} {sh : Sh} {k14 : Nat → Dt → Option (Int32 × Dt)} {k35 : Nat → Int32 → Int32 → Int32 → Int32 → Dt → Option (Int32 × Dt)} {r : Int32 × Dt} {E : EV} (hE : TG E (some (.int r.1)) (sh, r.2)) (hk14 : ∀ (l0 : Nat) (d : Dt), k14 l0 d = some r → Z E yX12_joinsAll cX12_joinsAll 8 (some .boolean) 5 (sh, d) 14 [(0, .ref l0)] []) (hk35 : ∀ (l0 : Nat) (l1 : Int32) (l2 : Int32) (l3 : Int32) (l4 : Int32) (d : Dt), k35 l0 l1 l2 l3 l4 d = some r → Z E yX12_joinsAll cX12_joinsAll 8 (some .boolean) 5 (sh, d) 35 [(0, .ref l0), (1, .int l1), (2, .int l2), (3, .int l3), (4, .int l4)] []) {l0 : Nat} {l1 : Int32} {l2 : Int32} {l3 : Int32} {l4 : Int32} {d : Dt} (hf : f_X12_joinsAll_143 N sh k14 k35 l0 l1 l2 l3 l4 d = some r) : Z E yX12_joinsAll cX12_joinsAll 8 (some .boolean) 5 (sh, d) 143 [(0, .ref l0), (1, .int l1), (2, .int l2), (3, .int l3), (4, .int l4)] [] := by
  unfold f_X12_joinsAll_143 at hf
  refine z_iinc [(4, .int (l4 + 1)), (0, .ref l0), (1, .int l1), (2, .int l2), (3, .int l3)] 4 (l4 + 1) dX12_joinsAll_143 rfl rfl (by decide) rfl ?_
  refine z_goto 35 dX12_joinsAll_146 (by decide) ?_
  refine z_lv [(0, .ref l0), (1, .int l1), (2, .int l2), (3, .int l3), (4, .int (l4 + 1))] [1, 2, 3, 4, 0] rfl ?_
  exact hk35 _ _ _ _ _ _ hf
set_option maxRecDepth 20000 in
theorem zb_X12_joinsAll_137 {N : Nat} {sh : Sh} {k14 : Nat → Dt → Option (Int32 × Dt)} {k35 : Nat → Int32 → Int32 → Int32 → Int32 → Dt → Option (Int32 × Dt)} {k57 : Nat → Int32 → Int32 → Int32 → Int32 → Int32 → Int32 → Dt → Option (Int32 × Dt)} {r : Int32 × Dt} {E : EV} (hE : TG E (some (.int r.1)) (sh, r.2)) (hk14 : ∀ (l0 : Nat) (d : Dt), k14 l0 d = some r → Z E yX12_joinsAll cX12_joinsAll 8 (some .boolean) 5 (sh, d) 14 [(0, .ref l0)] []) (hk35 : ∀ (l0 : Nat) (l1 : Int32) (l2 : Int32) (l3 : Int32) (l4 : Int32) (d : Dt), k35 l0 l1 l2 l3 l4 d = some r → Z E yX12_joinsAll cX12_joinsAll 8 (some .boolean) 5 (sh, d) 35 [(0, .ref l0), (1, .int l1), (2, .int l2), (3, .int l3), (4, .int l4)] []) (hk57 : ∀ (l0 : Nat) (l1 : Int32) (l2 : Int32) (l3 : Int32) (l4 : Int32) (l5 : Int32) (l6 : Int32) (d : Dt), k57 l0 l1 l2 l3 l4 l5 l6 d = some r → Z E yX12_joinsAll cX12_joinsAll 8 (some .boolean) 5 (sh, d) 57 [(0, .ref l0), (1, .int l1), (2, .int l2), (3, .int l3), (4, .int l4), (5, .int l5), (6, .int l6)] []) {l0 : Nat} {l1 : Int32} {l2 : Int32} {l3 : Int32} {l4 : Int32} {l5 : Int32} {l6 : Int32} {d : Dt} (hf : f_X12_joinsAll_137 N sh k14 k35 k57 l0 l1 l2 l3 l4 l5 l6 d = some r) : Z E yX12_joinsAll cX12_joinsAll 8 (some .boolean) 5 (sh, d) 137 [(0, .ref l0), (1, .int l1), (2, .int l2), (3, .int l3), (4, .int l4), (5, .int l5), (6, .int l6)] [] := by
  unfold f_X12_joinsAll_137 at hf
  refine z_iinc [(6, .int (l6 + 1)), (0, .ref l0), (1, .int l1), (2, .int l2), (3, .int l3), (4, .int l4), (5, .int l5)] 6 (l6 + 1) dX12_joinsAll_137 rfl rfl (by decide) rfl ?_
  refine z_goto 57 dX12_joinsAll_140 (by decide) ?_
  refine z_lv [(0, .ref l0), (1, .int l1), (2, .int l2), (3, .int l3), (4, .int l4), (5, .int l5), (6, .int (l6 + 1))] [1, 2, 3, 4, 5, 6, 0] rfl ?_
  exact hk57 _ _ _ _ _ _ _ _ hf
set_option maxRecDepth 20000 in
theorem zb_X12_joinsAll_128 {N : Nat} {sh : Sh} {k14 : Nat → Dt → Option (Int32 × Dt)} {k35 : Nat → Int32 → Int32 → Int32 → Int32 → Dt → Option (Int32 × Dt)} {k57 : Nat → Int32 → Int32 → Int32 → Int32 → Int32 → Int32 → Dt → Option (Int32 × Dt)} {r : Int32 × Dt} {E : EV} (hE : TG E (some (.int r.1)) (sh, r.2)) (hk14 : ∀ (l0 : Nat) (d : Dt), k14 l0 d = some r → Z E yX12_joinsAll cX12_joinsAll 8 (some .boolean) 5 (sh, d) 14 [(0, .ref l0)] []) (hk35 : ∀ (l0 : Nat) (l1 : Int32) (l2 : Int32) (l3 : Int32) (l4 : Int32) (d : Dt), k35 l0 l1 l2 l3 l4 d = some r → Z E yX12_joinsAll cX12_joinsAll 8 (some .boolean) 5 (sh, d) 35 [(0, .ref l0), (1, .int l1), (2, .int l2), (3, .int l3), (4, .int l4)] []) (hk57 : ∀ (l0 : Nat) (l1 : Int32) (l2 : Int32) (l3 : Int32) (l4 : Int32) (l5 : Int32) (l6 : Int32) (d : Dt), k57 l0 l1 l2 l3 l4 l5 l6 d = some r → Z E yX12_joinsAll cX12_joinsAll 8 (some .boolean) 5 (sh, d) 57 [(0, .ref l0), (1, .int l1), (2, .int l2), (3, .int l3), (4, .int l4), (5, .int l5), (6, .int l6)] []) {l0 : Nat} {l4 : Int32} {l5 : Int32} {l6 : Int32} {l7 : Int32} {d : Dt} (hf : f_X12_joinsAll_128 N sh k14 k35 k57 l0 l4 l5 l6 l7 d = some r) : Z E yX12_joinsAll cX12_joinsAll 8 (some .boolean) 5 (sh, d) 128 [(0, .ref l0), (4, .int l4), (5, .int l5), (6, .int l6), (7, .int l7)] [] := by
  unfold f_X12_joinsAll_128 at hf
  refine z_iload 4 dX12_joinsAll_128 rfl ?_
  refine z_istore_n [(3, .int l7), (0, .ref l0), (4, .int l4), (5, .int l5), (6, .int l6), (7, .int l7)] dX12_joinsAll_130 rfl (by decide) rfl ?_
  refine z_iload 4 dX12_joinsAll_131 rfl ?_
  refine z_istore_n [(1, .int l6), (3, .int l7), (0, .ref l0), (4, .int l4), (5, .int l5), (6, .int l6), (7, .int l7)] dX12_joinsAll_133 rfl (by decide) rfl ?_
  refine z_iload 3 dX12_joinsAll_134 rfl ?_
  refine z_istore_n [(2, .int l4), (1, .int l6), (3, .int l7), (0, .ref l0), (4, .int l4), (5, .int l5), (6, .int l6), (7, .int l7)] dX12_joinsAll_136 rfl (by decide) rfl ?_
  refine z_lv [(0, .ref l0), (1, .int l6), (2, .int l4), (3, .int l7), (4, .int l4), (5, .int l5), (6, .int l6)] [3, 1, 0, 2, 4, 5, 6] rfl ?_
  exact zb_X12_joinsAll_137 hE hk14 hk35 hk57 hf
set_option maxRecDepth 20000 in
theorem zb_X12_joinsAll_101 {N : Nat} {sh : Sh} {k14 : Nat → Dt → Option (Int32 × Dt)} {k35 : Nat → Int32 → Int32 → Int32 → Int32 → Dt → Option (Int32 × Dt)} {k57 : Nat → Int32 → Int32 → Int32 → Int32 → Int32 → Int32 → Dt → Option (Int32 × Dt)} {r : Int32 × Dt} {E : EV} (hE : TG E (some (.int r.1)) (sh, r.2)) (hk14 : ∀ (l0 : Nat) (d : Dt), k14 l0 d = some r → Z E yX12_joinsAll cX12_joinsAll 8 (some .boolean) 5 (sh, d) 14 [(0, .ref l0)] []) (hk35 : ∀ (l0 : Nat) (l1 : Int32) (l2 : Int32) (l3 : Int32) (l4 : Int32) (d : Dt), k35 l0 l1 l2 l3 l4 d = some r → Z E yX12_joinsAll cX12_joinsAll 8 (some .boolean) 5 (sh, d) 35 [(0, .ref l0), (1, .int l1), (2, .int l2), (3, .int l3), (4, .int l4)] []) (hk57 : ∀ (l0 : Nat) (l1 : Int32) (l2 : Int32) (l3 : Int32) (l4 : Int32) (l5 : Int32) (l6 : Int32) (d : Dt), k57 l0 l1 l2 l3 l4 l5 l6 d = some r → Z E yX12_joinsAll cX12_joinsAll 8 (some .boolean) 5 (sh, d) 57 [(0, .ref l0), (1, .int l1), (2, .int l2), (3, .int l3), (4, .int l4), (5, .int l5), (6, .int l6)] []) {l0 : Nat} {l1 : Int32} {l2 : Int32} {l3 : Int32} {l4 : Int32} {l5 : Int32} {l6 : Int32} {t0 : Int32} {d : Dt} (hf : f_X12_joinsAll_101 N sh k14 k35 k57 l0 l1 l2 l3 l4 l5 l6 t0 d = some r) : Z E yX12_joinsAll cX12_joinsAll 8 (some .boolean) 5 (sh, d) 101 [(0, .ref l0), (1, .int l1), (2, .int l2), (3, .int l3), (4, .int l4), (5, .int l5), (6, .int l6)] [.int t0] := by
  unfold f_X12_joinsAll_101 at hf
  refine z_istore [(7, .int t0), (0, .ref l0), (1, .int l1), (2, .int l2), (3, .int l3), (4, .int l4), (5, .int l5), (6, .int l6)] dX12_joinsAll_101 (by decide) rfl ?_
  refine z_iload 0 dX12_joinsAll_103 rfl ?_
  refine z_iload_n 4 dX12_joinsAll_105 rfl rfl ?_
  refine z_icmp_lt 128 hf dX12_joinsAll_106 (by decide) (fun hf => ?_) (fun hf => ?_)
  · refine z_lv [(0, .ref l0), (4, .int l4), (5, .int l5), (6, .int l6), (7, .int t0)] [1, 5, 6, 7, 0] rfl ?_
    exact zb_X12_joinsAll_128 hE hk14 hk35 hk57 hf
  · refine z_iload 0 dX12_joinsAll_109 rfl ?_
    refine z_iload_n 4 dX12_joinsAll_111 rfl rfl ?_
    refine z_icmp_ne 137 hf dX12_joinsAll_112 (by decide) (fun hf => ?_) (fun hf => ?_)
    · refine z_lv [(0, .ref l0), (1, .int l1), (2, .int l2), (3, .int l3), (4, .int l4), (5, .int l5), (6, .int l6)] [1, 2, 3, 4, 5, 6, 7] rfl ?_
      exact zb_X12_joinsAll_137 hE hk14 hk35 hk57 hf
    · refine z_iload 0 dX12_joinsAll_115 rfl ?_
      refine z_ldc mw_17_19 dX12_joinsAll_117 ?_
      refine z_icmp_ge 137 hf dX12_joinsAll_119 (by decide) (fun hf => ?_) (fun hf => ?_)
      · refine z_lv [(0, .ref l0), (1, .int l1), (2, .int l2), (3, .int l3), (4, .int l4), (5, .int l5), (6, .int l6)] [1, 2, 3, 4, 5, 6, 7] rfl ?_
        exact zb_X12_joinsAll_137 hE hk14 hk35 hk57 hf
      · refine z_iload 7 dX12_joinsAll_122 rfl ?_
        refine z_iload_n 2 dX12_joinsAll_124 rfl rfl ?_
        refine z_icmp_ge 137 hf dX12_joinsAll_125 (by decide) (fun hf => ?_) (fun hf => ?_)
        · refine z_lv [(0, .ref l0), (1, .int l1), (2, .int l2), (3, .int l3), (4, .int l4), (5, .int l5), (6, .int l6)] [1, 2, 3, 4, 5, 6, 7] rfl ?_
          exact zb_X12_joinsAll_137 hE hk14 hk35 hk57 hf
        · refine z_lv [(0, .ref l0), (4, .int l4), (5, .int l5), (6, .int l6), (7, .int t0)] [1, 5, 6, 7, 0] rfl ?_
          exact zb_X12_joinsAll_128 hE hk14 hk35 hk57 hf
set_option maxRecDepth 20000 in
theorem zg_X12_joinsAll_57 {N : Nat} {sh : Sh} {k14 : Nat → Dt → Option (Int32 × Dt)} {k35 : Nat → Int32 → Int32 → Int32 → Int32 → Dt → Option (Int32 × Dt)} {r : Int32 × Dt} {k57 : Nat → Int32 → Int32 → Int32 → Int32 → Int32 → Int32 → Dt → Option (Int32 × Dt)} {E : EV} (hE : TG E (some (.int r.1)) (sh, r.2)) (hk14 : ∀ (l0 : Nat) (d : Dt), k14 l0 d = some r → Z E yX12_joinsAll cX12_joinsAll 8 (some .boolean) 5 (sh, d) 14 [(0, .ref l0)] []) (hk35 : ∀ (l0 : Nat) (l1 : Int32) (l2 : Int32) (l3 : Int32) (l4 : Int32) (d : Dt), k35 l0 l1 l2 l3 l4 d = some r → Z E yX12_joinsAll cX12_joinsAll 8 (some .boolean) 5 (sh, d) 35 [(0, .ref l0), (1, .int l1), (2, .int l2), (3, .int l3), (4, .int l4)] []) (hk57 : ∀ (l0 : Nat) (l1 : Int32) (l2 : Int32) (l3 : Int32) (l4 : Int32) (l5 : Int32) (l6 : Int32) (d : Dt), k57 l0 l1 l2 l3 l4 l5 l6 d = some r → Z E yX12_joinsAll cX12_joinsAll 8 (some .boolean) 5 (sh, d) 57 [(0, .ref l0), (1, .int l1), (2, .int l2), (3, .int l3), (4, .int l4), (5, .int l5), (6, .int l6)] []) {l0 : Nat} {l1 : Int32} {l2 : Int32} {l3 : Int32} {l4 : Int32} {l5 : Int32} {l6 : Int32} {d : Dt} (hf : g_X12_joinsAll_57 N sh k14 k35 k57 l0 l1 l2 l3 l4 l5 l6 d = some r) : Z E yX12_joinsAll cX12_joinsAll 8 (some .boolean) 5 (sh, d) 57 [(0, .ref l0), (1, .int l1), (2, .int l2), (3, .int l3), (4, .int l4), (5, .int l5), (6, .int l6)] [] := by
  unfold g_X12_joinsAll_57 at hf
  refine z_iload 6 dX12_joinsAll_57 rfl ?_
  refine z_aload_n 0 dX12_joinsAll_59 rfl rfl ?_
  refine z_gP (ci := 12) (k := 0) (C := RX12) (T := TX12) (N := 32) rfl inlX12 (by decide) mw_6_19 (fun _ _ _ _ h9 => h9) hf (by decide) rfl dX12_joinsAll_60  (fun v14 hf => ?_)
  refine z_iconst 0 0 dX12_joinsAll_63 (by decide) ?_
  refine z_aI hf dX12_joinsAll_64  (fun v15 hf => ?_)
  refine z_icmp_ge 143 hf dX12_joinsAll_65 (by decide) (fun hf => ?_) (fun hf => ?_)
  · refine z_lv [(0, .ref l0), (1, .int l1), (2, .int l2), (3, .int l3), (4, .int l4)] [0, 1, 2, 3, 4] rfl ?_
    exact zb_X12_joinsAll_143 hE hk14 hk35 hf
  · refine z_iload 5 dX12_joinsAll_68 rfl ?_
    refine z_if_eq 143 hf dX12_joinsAll_70 (by decide) (fun hf => ?_) (fun hf => ?_)
    · refine z_lv [(0, .ref l0), (1, .int l1), (2, .int l2), (3, .int l3), (4, .int l4)] [0, 1, 2, 3, 4] rfl ?_
      exact zb_X12_joinsAll_143 hE hk14 hk35 hf
    · refine z_aload_n 0 dX12_joinsAll_73 rfl rfl ?_
      refine z_gP (ci := 12) (k := 17) (C := RX12) (T := TX12) (N := 32) rfl inlX12 (by decide) mw_7_6 (fun _ _ _ _ h9 => h9) hf (by decide) rfl dX12_joinsAll_74  (fun v16 hf => ?_)
      refine z_iload 6 dX12_joinsAll_77 rfl ?_
      refine z_aZ hf dX12_joinsAll_79  (fun v17 hf => ?_)
      refine z_if_eq 99 hf dX12_joinsAll_80 (by decide) (fun hf => ?_) (fun hf => ?_)
      · refine z_ldc mw_17_19 dX12_joinsAll_99 ?_
        exact zb_X12_joinsAll_101 hE hk14 hk35 hk57 hf
      · refine z_aload_n 0 dX12_joinsAll_83 rfl rfl ?_
        refine z_gP (ci := 12) (k := 9) (C := RX12) (T := TX12) (N := 32) rfl inlX12 (by decide) mw_6_23 (fun _ _ _ _ h9 => h9) hf (by decide) rfl dX12_joinsAll_84  (fun v18 hf => ?_)
        refine z_bipush 60 60 dX12_joinsAll_87 (by decide) ?_
        refine z_iload 6 dX12_joinsAll_89 rfl ?_
        refine z_imul dX12_joinsAll_91 ?_
        refine z_iload 4 dX12_joinsAll_92 rfl ?_
        refine z_iadd dX12_joinsAll_94 ?_
        refine z_aI hf dX12_joinsAll_95  (fun v19 hf => ?_)
        refine z_goto 101 dX12_joinsAll_96 (by decide) ?_
        exact zb_X12_joinsAll_101 hE hk14 hk35 hk57 hf
set_option maxRecDepth 20000 in
theorem zb_X12_joinsAll_57 {N : Nat} {sh : Sh} {k14 : Nat → Dt → Option (Int32 × Dt)} {k35 : Nat → Int32 → Int32 → Int32 → Int32 → Dt → Option (Int32 × Dt)} {r : Int32 × Dt} {E : EV} (hE : TG E (some (.int r.1)) (sh, r.2)) (hk14 : ∀ (l0 : Nat) (d : Dt), k14 l0 d = some r → Z E yX12_joinsAll cX12_joinsAll 8 (some .boolean) 5 (sh, d) 14 [(0, .ref l0)] []) (hk35 : ∀ (l0 : Nat) (l1 : Int32) (l2 : Int32) (l3 : Int32) (l4 : Int32) (d : Dt), k35 l0 l1 l2 l3 l4 d = some r → Z E yX12_joinsAll cX12_joinsAll 8 (some .boolean) 5 (sh, d) 35 [(0, .ref l0), (1, .int l1), (2, .int l2), (3, .int l3), (4, .int l4)] []) : ∀ (n : Nat) (l0 : Nat) (l1 : Int32) (l2 : Int32) (l3 : Int32) (l4 : Int32) (l5 : Int32) (l6 : Int32) (d : Dt), f_X12_joinsAll_57 N sh k14 k35 n l0 l1 l2 l3 l4 l5 l6 d = some r → Z E yX12_joinsAll cX12_joinsAll 8 (some .boolean) 5 (sh, d) 57 [(0, .ref l0), (1, .int l1), (2, .int l2), (3, .int l3), (4, .int l4), (5, .int l5), (6, .int l6)] [] := by
  intro n
  induction n with
  | zero => intro l0 l1 l2 l3 l4 l5 l6 d hf; cases hf
  | succ n ih => intro l0 l1 l2 l3 l4 l5 l6 d hf; exact zg_X12_joinsAll_57 hE hk14 hk35 ih hf
set_option maxRecDepth 20000 in
theorem zg_X12_joinsAll_35 {N : Nat} {sh : Sh} {k14 : Nat → Dt → Option (Int32 × Dt)} {r : Int32 × Dt} {k35 : Nat → Int32 → Int32 → Int32 → Int32 → Dt → Option (Int32 × Dt)} {E : EV} (hE : TG E (some (.int r.1)) (sh, r.2)) (hk14 : ∀ (l0 : Nat) (d : Dt), k14 l0 d = some r → Z E yX12_joinsAll cX12_joinsAll 8 (some .boolean) 5 (sh, d) 14 [(0, .ref l0)] []) (hk35 : ∀ (l0 : Nat) (l1 : Int32) (l2 : Int32) (l3 : Int32) (l4 : Int32) (d : Dt), k35 l0 l1 l2 l3 l4 d = some r → Z E yX12_joinsAll cX12_joinsAll 8 (some .boolean) 5 (sh, d) 35 [(0, .ref l0), (1, .int l1), (2, .int l2), (3, .int l3), (4, .int l4)] []) {l0 : Nat} {l1 : Int32} {l2 : Int32} {l3 : Int32} {l4 : Int32} {d : Dt} (hf : g_X12_joinsAll_35 N sh k14 k35 l0 l1 l2 l3 l4 d = some r) : Z E yX12_joinsAll cX12_joinsAll 8 (some .boolean) 5 (sh, d) 35 [(0, .ref l0), (1, .int l1), (2, .int l2), (3, .int l3), (4, .int l4)] [] := by
  unfold g_X12_joinsAll_35 at hf
  refine z_iload 4 dX12_joinsAll_35 rfl ?_
  refine z_aload_n 0 dX12_joinsAll_37 rfl rfl ?_
  refine z_gP (ci := 12) (k := 0) (C := RX12) (T := TX12) (N := 32) rfl inlX12 (by decide) mw_6_19 (fun _ _ _ _ h9 => h9) hf (by decide) rfl dX12_joinsAll_38  (fun v6 hf => ?_)
  refine z_iconst 0 0 dX12_joinsAll_41 (by decide) ?_
  refine z_aI hf dX12_joinsAll_42  (fun v7 hf => ?_)
  refine z_icmp_ge 149 hf dX12_joinsAll_43 (by decide) (fun hf => ?_) (fun hf => ?_)
  · refine z_lv [(0, .ref l0), (1, .int l1), (2, .int l2), (3, .int l3)] [0, 1, 2, 3] rfl ?_
    exact zb_X12_joinsAll_149 hE hk14 hf
  · refine z_aload_n 0 dX12_joinsAll_46 rfl rfl ?_
    refine z_iload 4 dX12_joinsAll_47 rfl ?_
    obtain ⟨v8, ev8, hf⟩ := ob hf
    refine z_cVi (ci := 12) (T := TX12) (N := 32) (As := [.int l4]) (rest := []) (zm_X12_isApart ev8).2 (zm_X12_isApart ev8).1 (by decide) rfl (Or.inl rfl) mw_50_1 mw_50_2 mw_50_3 mw_1_5 mw_50_4 yk_X12_isApart (by decide) (by decide) rfl (Nat.le_of_ble_eq_true rfl) rfl dX12_joinsAll_49 ?_
    refine z_istore [(5, .int v8), (0, .ref l0), (1, .int l1), (2, .int l2), (3, .int l3), (4, .int l4)] dX12_joinsAll_52 (by decide) rfl ?_
    refine z_iconst 0 0 dX12_joinsAll_54 (by decide) ?_
    refine z_istore [(6, .int (0 : Int32)), (5, .int v8), (0, .ref l0), (1, .int l1), (2, .int l2), (3, .int l3), (4, .int l4)] dX12_joinsAll_55 (by decide) rfl ?_
    refine z_lv [(0, .ref l0), (1, .int l1), (2, .int l2), (3, .int l3), (4, .int l4), (5, .int v8), (6, .int (0 : Int32))] [2, 3, 4, 5, 6, 1, 0] rfl ?_
    exact zb_X12_joinsAll_57 hE hk14 hk35 N _ _ _ _ _ _ _ _ hf
set_option maxRecDepth 20000 in
theorem zb_X12_joinsAll_35 {N : Nat} {sh : Sh} {k14 : Nat → Dt → Option (Int32 × Dt)} {r : Int32 × Dt} {E : EV} (hE : TG E (some (.int r.1)) (sh, r.2)) (hk14 : ∀ (l0 : Nat) (d : Dt), k14 l0 d = some r → Z E yX12_joinsAll cX12_joinsAll 8 (some .boolean) 5 (sh, d) 14 [(0, .ref l0)] []) : ∀ (n : Nat) (l0 : Nat) (l1 : Int32) (l2 : Int32) (l3 : Int32) (l4 : Int32) (d : Dt), f_X12_joinsAll_35 N sh k14 n l0 l1 l2 l3 l4 d = some r → Z E yX12_joinsAll cX12_joinsAll 8 (some .boolean) 5 (sh, d) 35 [(0, .ref l0), (1, .int l1), (2, .int l2), (3, .int l3), (4, .int l4)] [] := by
  intro n
  induction n with
  | zero => intro l0 l1 l2 l3 l4 d hf; cases hf
  | succ n ih => intro l0 l1 l2 l3 l4 d hf; exact zg_X12_joinsAll_35 hE hk14 ih hf
set_option maxRecDepth 20000 in
theorem zg_X12_joinsAll_14 {N : Nat} {sh : Sh} {r : Int32 × Dt} {k14 : Nat → Dt → Option (Int32 × Dt)} {E : EV} (hE : TG E (some (.int r.1)) (sh, r.2))  (hk14 : ∀ (l0 : Nat) (d : Dt), k14 l0 d = some r → Z E yX12_joinsAll cX12_joinsAll 8 (some .boolean) 5 (sh, d) 14 [(0, .ref l0)] []) {l0 : Nat} {d : Dt} (hf : g_X12_joinsAll_14 N sh k14 l0 d = some r) : Z E yX12_joinsAll cX12_joinsAll 8 (some .boolean) 5 (sh, d) 14 [(0, .ref l0)] [] := by
  unfold g_X12_joinsAll_14 at hf
  refine z_aload_n 0 dX12_joinsAll_14 rfl rfl ?_
  refine z_aload_n 0 dX12_joinsAll_15 rfl rfl ?_
  refine z_gP (ci := 12) (k := 14) (C := RX12) (T := TX12) (N := 32) rfl inlX12 (by decide) mw_7_4 (fun _ _ _ _ h9 => h9) hf (by decide) rfl dX12_joinsAll_16  (fun v4 hf => ?_)
  obtain ⟨v5, ev5, hf⟩ := ob hf
  refine z_cVi (ci := 12) (T := TX12) (N := 32) (As := [.ref v4]) (rest := []) (zm_X12_hasMore ev5).2 (zm_X12_hasMore ev5).1 (by decide) rfl (Or.inl rfl) mw_49_21 mw_49_22 mw_49_23 mw_1_5 mw_50_0 yk_X12_hasMore (by decide) (by decide) rfl (Nat.le_of_ble_eq_true rfl) rfl dX12_joinsAll_19 ?_
  refine z_if_eq 186 hf dX12_joinsAll_22 (by decide) (fun hf => ?_) (fun hf => ?_)
  · refine z_lv [] [] rfl ?_
    exact zb_X12_joinsAll_186 hE hf
  · refine z_iconst (-1) (-1) dX12_joinsAll_25 (by decide) ?_
    refine z_istore_n [(1, .int (-1 : Int32)), (0, .ref l0)] dX12_joinsAll_26 rfl (by decide) rfl ?_
    refine z_iconst (-1) (-1) dX12_joinsAll_27 (by decide) ?_
    refine z_istore_n [(2, .int (-1 : Int32)), (1, .int (-1 : Int32)), (0, .ref l0)] dX12_joinsAll_28 rfl (by decide) rfl ?_
    refine z_ldc mw_17_19 dX12_joinsAll_29 ?_
    refine z_istore_n [(3, .int (268435456 : Int32)), (2, .int (-1 : Int32)), (1, .int (-1 : Int32)), (0, .ref l0)] dX12_joinsAll_31 rfl (by decide) rfl ?_
    refine z_iconst 0 0 dX12_joinsAll_32 (by decide) ?_
    refine z_istore [(4, .int (0 : Int32)), (3, .int (268435456 : Int32)), (2, .int (-1 : Int32)), (1, .int (-1 : Int32)), (0, .ref l0)] dX12_joinsAll_33 (by decide) rfl ?_
    refine z_lv [(0, .ref l0), (1, .int (-1 : Int32)), (2, .int (-1 : Int32)), (3, .int (268435456 : Int32)), (4, .int (0 : Int32))] [4, 3, 2, 1, 0] rfl ?_
    exact zb_X12_joinsAll_35 hE hk14 N _ _ _ _ _ _ hf
set_option maxRecDepth 20000 in
theorem zb_X12_joinsAll_14 {N : Nat} {sh : Sh} {r : Int32 × Dt} {E : EV} (hE : TG E (some (.int r.1)) (sh, r.2))  : ∀ (n : Nat) (l0 : Nat) (d : Dt), f_X12_joinsAll_14 N sh n l0 d = some r → Z E yX12_joinsAll cX12_joinsAll 8 (some .boolean) 5 (sh, d) 14 [(0, .ref l0)] [] := by
  intro n
  induction n with
  | zero => intro l0 d hf; cases hf
  | succ n ih => intro l0 d hf; exact zg_X12_joinsAll_14 hE ih hf
set_option maxRecDepth 20000 in
theorem zm_X12_joinsAll {N : Nat} {sh : Sh} {d : Dt} {l0 : Nat} {r : Int32 × Dt} (hf : f_X12_joinsAll N sh l0 d = some r) : isO sh l0 12 ∧ ∀ (l : Launch) (G : GG), Mt l G yX12_joinsAll cX12_joinsAll 8 (some .boolean) 5 [.ref l0] (sh, d) (some (.int r.1)) (sh, r.2) := by
  have hf0 := hf
  unfold f_X12_joinsAll at hf
  refine ite_d hf (fun hO hf => ?_) (fun _ hf => ?_)
  · refine ⟨hO, fun l G => mt_of (Or.inl (by decide)) (Nat.le_of_ble_eq_true rfl) Le.rf (fun E hE => ?_)⟩
    show Z E yX12_joinsAll cX12_joinsAll 8 (some .boolean) 5 (sh, d) 0 [(0, .ref l0)] []
    refine z_aload_n 0 dX12_joinsAll_0 rfl rfl ?_
    refine z_iconst 0 0 dX12_joinsAll_1 (by decide) ?_
    refine z_pI (ci := 12) (k := 19) (C := RX12) (T := TX12) (N := 32) rfl inlX12 (by decide) mw_48_17 (fun _ _ _ _ h9 => h9) tyX12 tyX12_ok nmX12 rfl hf (Or.inl (by decide)) rfl rfl rfl dX12_joinsAll_2  (fun d1 hf => ?_)
    refine z_aload_n 0 dX12_joinsAll_5 rfl rfl ?_
    refine z_iconst 0 0 dX12_joinsAll_6 (by decide) ?_
    refine z_aload_n 0 dX12_joinsAll_7 rfl rfl ?_
    refine z_gP (ci := 12) (k := 14) (C := RX12) (T := TX12) (N := 32) rfl inlX12 (by decide) mw_7_4 (fun _ _ _ _ h9 => h9) hf (by decide) rfl dX12_joinsAll_8  (fun v2 hf => ?_)
    obtain ⟨v3, ev3, hf⟩ := ob hf
    refine z_cVv (ci := 12) (T := TX12) (N := 32) (As := [.int (0 : Int32), .ref v2]) (rest := []) (zm_X12_follows ev3).2 (zm_X12_follows ev3).1 (by decide) rfl (Or.inl rfl) mw_49_17 mw_49_18 mw_49_19 mw_1_5 mw_49_20 yk_X12_follows (by decide) (by decide) rfl (Nat.le_of_ble_eq_true rfl) rfl dX12_joinsAll_11 ?_
    exact zb_X12_joinsAll_14 hE N _ _ hf
  · cases hf
set_option maxRecDepth 20000 in
theorem zm_X12_lessens {N : Nat} {sh : Sh} {d : Dt} {l0 : Nat} {l1 : Int32} {l2 : Int32} {l3 : Int32} {l4 : Int32} {r : Int32 × Dt} (hf : f_X12_lessens N sh l0 l1 l2 l3 l4 d = some r) : isO sh l0 12 ∧ ∀ (l : Launch) (G : GG), Mt l G yX12_lessens cX12_lessens 5 (some .boolean) 1 [.ref l0, .int l1, .int l2, .int l3, .int l4] (sh, d) (some (.int r.1)) (sh, r.2) := by
  have hf0 := hf
  unfold f_X12_lessens at hf
  refine ite_d hf (fun hO hf => ?_) (fun _ hf => ?_)
  · refine ⟨hO, fun l G => mt_of (Or.inl (by decide)) (Nat.le_of_ble_eq_true rfl) Le.rf (fun E hE => ?_)⟩
    show Z E yX12_lessens cX12_lessens 5 (some .boolean) 1 (sh, d) 0 [(0, .ref l0), (1, .int l1), (2, .int l2), (3, .int l3), (4, .int l4)] []
    refine z_aload_n 0 dX12_lessens_0 rfl rfl ?_
    refine z_gP (ci := 12) (k := 9) (C := RX12) (T := TX12) (N := 32) rfl inlX12 (by decide) mw_6_23 (fun _ _ _ _ h9 => h9) hf (by decide) rfl dX12_lessens_1  (fun v1 hf => ?_)
    refine z_bipush 60 60 dX12_lessens_4 (by decide) ?_
    refine z_iload_n 2 dX12_lessens_6 rfl rfl ?_
    refine z_imul dX12_lessens_7 ?_
    refine z_iload 4 dX12_lessens_8 rfl ?_
    refine z_iadd dX12_lessens_10 ?_
    refine z_aI hf dX12_lessens_11  (fun v2 hf => ?_)
    refine z_iload_n 3 dX12_lessens_12 rfl rfl ?_
    refine z_iadd dX12_lessens_13 ?_
    refine z_aload_n 0 dX12_lessens_14 rfl rfl ?_
    refine z_gP (ci := 12) (k := 9) (C := RX12) (T := TX12) (N := 32) rfl inlX12 (by decide) mw_6_23 (fun _ _ _ _ h9 => h9) hf (by decide) rfl dX12_lessens_15  (fun v3 hf => ?_)
    refine z_bipush 60 60 dX12_lessens_18 (by decide) ?_
    refine z_iload_n 1 dX12_lessens_20 rfl rfl ?_
    refine z_imul dX12_lessens_21 ?_
    refine z_iload 4 dX12_lessens_22 rfl ?_
    refine z_iadd dX12_lessens_24 ?_
    refine z_aI hf dX12_lessens_25  (fun v4 hf => ?_)
    refine z_icmp_ge 57 hf dX12_lessens_26 (by decide) (fun hf => ?_) (fun hf => ?_)
    · refine z_iconst 0 0 dX12_lessens_57 (by decide) ?_
      cases hf
      exact z_zreturn hE rfl (by decide) dX12_lessens_58
    · refine z_aload_n 0 dX12_lessens_29 rfl rfl ?_
      refine z_gP (ci := 12) (k := 9) (C := RX12) (T := TX12) (N := 32) rfl inlX12 (by decide) mw_6_23 (fun _ _ _ _ h9 => h9) hf (by decide) rfl dX12_lessens_30  (fun v5 hf => ?_)
      refine z_bipush 60 60 dX12_lessens_33 (by decide) ?_
      refine z_iload_n 1 dX12_lessens_35 rfl rfl ?_
      refine z_imul dX12_lessens_36 ?_
      refine z_iload 4 dX12_lessens_37 rfl ?_
      refine z_iadd dX12_lessens_39 ?_
      refine z_aload_n 0 dX12_lessens_40 rfl rfl ?_
      refine z_gP (ci := 12) (k := 9) (C := RX12) (T := TX12) (N := 32) rfl inlX12 (by decide) mw_6_23 (fun _ _ _ _ h9 => h9) hf (by decide) rfl dX12_lessens_41  (fun v6 hf => ?_)
      refine z_bipush 60 60 dX12_lessens_44 (by decide) ?_
      refine z_iload_n 2 dX12_lessens_46 rfl rfl ?_
      refine z_imul dX12_lessens_47 ?_
      refine z_iload 4 dX12_lessens_48 rfl ?_
      refine z_iadd dX12_lessens_50 ?_
      refine z_aI hf dX12_lessens_51  (fun v7 hf => ?_)
      refine z_iload_n 3 dX12_lessens_52 rfl rfl ?_
      refine z_iadd dX12_lessens_53 ?_
      refine z_sI hf dX12_lessens_54  (fun d8 hf => ?_)
      refine z_iconst 1 1 dX12_lessens_55 (by decide) ?_
      cases hf
      exact z_zreturn hE rfl (by decide) dX12_lessens_56
  · cases hf
set_option maxRecDepth 20000 in
theorem zb_X12_reckonTo_198 {N : Nat} {sh : Sh} {r : Dt} {E : EV} (hE : TG E none (sh, r))   {d : Dt} (hf : f_X12_reckonTo_198 N sh  d = some r) : Z E yX12_reckonTo cX12_reckonTo 7 none 3 (sh, d) 198 [] [] := by
  unfold f_X12_reckonTo_198 at hf
  cases hf
  exact z_return hE rfl dX12_reckonTo_198
set_option maxRecDepth 20000 in
theorem zb_X12_reckonTo_195 {N : Nat} {sh : Sh} {k42 : Nat → Int32 → Int32 → Dt → Option Dt} {r : Dt} {E : EV} (hE : TG E none (sh, r)) (hk42 : ∀ (l0 : Nat) (l1 : Int32) (l2 : Int32) (d : Dt), k42 l0 l1 l2 d = some r → Z E yX12_reckonTo cX12_reckonTo 7 none 3 (sh, d) 42 [(0, .ref l0), (1, .int l1), (2, .int l2)] []) {l0 : Nat} {l1 : Int32} {l2 : Int32} {d : Dt} (hf : f_X12_reckonTo_195 N sh k42 l0 l1 l2 d = some r) : Z E yX12_reckonTo cX12_reckonTo 7 none 3 (sh, d) 195 [(0, .ref l0), (1, .int l1), (2, .int l2)] [] := by
  unfold f_X12_reckonTo_195 at hf
  refine z_goto 42 dX12_reckonTo_195 (by decide) ?_
  exact hk42 _ _ _ _ hf
set_option maxRecDepth 20000 in
theorem zb_X12_reckonTo_189 {N : Nat} {sh : Sh} {k42 : Nat → Int32 → Int32 → Dt → Option Dt} {k50 : Nat → Int32 → Int32 → Int32 → Dt → Option Dt} {r : Dt} {E : EV} (hE : TG E none (sh, r)) (hk42 : ∀ (l0 : Nat) (l1 : Int32) (l2 : Int32) (d : Dt), k42 l0 l1 l2 d = some r → Z E yX12_reckonTo cX12_reckonTo 7 none 3 (sh, d) 42 [(0, .ref l0), (1, .int l1), (2, .int l2)] []) (hk50 : ∀ (l0 : Nat) (l1 : Int32) (l2 : Int32) (l3 : Int32) (d : Dt), k50 l0 l1 l2 l3 d = some r → Z E yX12_reckonTo cX12_reckonTo 7 none 3 (sh, d) 50 [(0, .ref l0), (1, .int l1), (2, .int l2), (3, .int l3)] []) {l0 : Nat} {l1 : Int32} {l2 : Int32} {l3 : Int32} {d : Dt} (hf : f_X12_reckonTo_189 N sh k42 k50 l0 l1 l2 l3 d = some r) : Z E yX12_reckonTo cX12_reckonTo 7 none 3 (sh, d) 189 [(0, .ref l0), (1, .int l1), (2, .int l2), (3, .int l3)] [] := by
  unfold f_X12_reckonTo_189 at hf
  refine z_iinc [(3, .int (l3 + 1)), (0, .ref l0), (1, .int l1), (2, .int l2)] 3 (l3 + 1) dX12_reckonTo_189 rfl rfl (by decide) rfl ?_
  refine z_goto 50 dX12_reckonTo_192 (by decide) ?_
  refine z_lv [(0, .ref l0), (1, .int l1), (2, .int l2), (3, .int (l3 + 1))] [1, 2, 3, 0] rfl ?_
  exact hk50 _ _ _ _ _ hf
set_option maxRecDepth 20000 in
theorem zb_X12_reckonTo_188 {N : Nat} {sh : Sh} {k42 : Nat → Int32 → Int32 → Dt → Option Dt} {k50 : Nat → Int32 → Int32 → Int32 → Dt → Option Dt} {r : Dt} {E : EV} (hE : TG E none (sh, r)) (hk42 : ∀ (l0 : Nat) (l1 : Int32) (l2 : Int32) (d : Dt), k42 l0 l1 l2 d = some r → Z E yX12_reckonTo cX12_reckonTo 7 none 3 (sh, d) 42 [(0, .ref l0), (1, .int l1), (2, .int l2)] []) (hk50 : ∀ (l0 : Nat) (l1 : Int32) (l2 : Int32) (l3 : Int32) (d : Dt), k50 l0 l1 l2 l3 d = some r → Z E yX12_reckonTo cX12_reckonTo 7 none 3 (sh, d) 50 [(0, .ref l0), (1, .int l1), (2, .int l2), (3, .int l3)] []) {l0 : Nat} {l1 : Int32} {l3 : Int32} {t0 : Int32} {d : Dt} (hf : f_X12_reckonTo_188 N sh k42 k50 l0 l1 l3 t0 d = some r) : Z E yX12_reckonTo cX12_reckonTo 7 none 3 (sh, d) 188 [(0, .ref l0), (1, .int l1), (3, .int l3)] [.int t0] := by
  unfold f_X12_reckonTo_188 at hf
  refine z_istore_n [(2, .int t0), (0, .ref l0), (1, .int l1), (3, .int l3)] dX12_reckonTo_188 rfl (by decide) rfl ?_
  refine z_lv [(0, .ref l0), (1, .int l1), (2, .int t0), (3, .int l3)] [1, 2, 0, 3] rfl ?_
  exact zb_X12_reckonTo_189 hE hk42 hk50 hf
set_option maxRecDepth 20000 in
theorem zb_X12_reckonTo_183 {N : Nat} {sh : Sh} {k42 : Nat → Int32 → Int32 → Dt → Option Dt} {k50 : Nat → Int32 → Int32 → Int32 → Dt → Option Dt} {r : Dt} {E : EV} (hE : TG E none (sh, r)) (hk42 : ∀ (l0 : Nat) (l1 : Int32) (l2 : Int32) (d : Dt), k42 l0 l1 l2 d = some r → Z E yX12_reckonTo cX12_reckonTo 7 none 3 (sh, d) 42 [(0, .ref l0), (1, .int l1), (2, .int l2)] []) (hk50 : ∀ (l0 : Nat) (l1 : Int32) (l2 : Int32) (l3 : Int32) (d : Dt), k50 l0 l1 l2 l3 d = some r → Z E yX12_reckonTo cX12_reckonTo 7 none 3 (sh, d) 50 [(0, .ref l0), (1, .int l1), (2, .int l2), (3, .int l3)] []) {l0 : Nat} {l1 : Int32} {l3 : Int32} {d : Dt} (hf : f_X12_reckonTo_183 N sh k42 k50 l0 l1 l3 d = some r) : Z E yX12_reckonTo cX12_reckonTo 7 none 3 (sh, d) 183 [(0, .ref l0), (1, .int l1), (3, .int l3)] [] := by
  unfold f_X12_reckonTo_183 at hf
  refine z_iconst 1 1 dX12_reckonTo_183 (by decide) ?_
  refine z_goto 188 dX12_reckonTo_184 (by decide) ?_
  exact zb_X12_reckonTo_188 hE hk42 hk50 hf
set_option maxRecDepth 20000 in
theorem zb_X12_reckonTo_167 {N : Nat} {sh : Sh} {k42 : Nat → Int32 → Int32 → Dt → Option Dt} {k50 : Nat → Int32 → Int32 → Int32 → Dt → Option Dt} {r : Dt} {E : EV} (hE : TG E none (sh, r)) (hk42 : ∀ (l0 : Nat) (l1 : Int32) (l2 : Int32) (d : Dt), k42 l0 l1 l2 d = some r → Z E yX12_reckonTo cX12_reckonTo 7 none 3 (sh, d) 42 [(0, .ref l0), (1, .int l1), (2, .int l2)] []) (hk50 : ∀ (l0 : Nat) (l1 : Int32) (l2 : Int32) (l3 : Int32) (d : Dt), k50 l0 l1 l2 l3 d = some r → Z E yX12_reckonTo cX12_reckonTo 7 none 3 (sh, d) 50 [(0, .ref l0), (1, .int l1), (2, .int l2), (3, .int l3)] []) {l0 : Nat} {l1 : Int32} {l2 : Int32} {l3 : Int32} {l5 : Int32} {t0 : Int32} {d : Dt} (hf : f_X12_reckonTo_167 N sh k42 k50 l0 l1 l2 l3 l5 t0 d = some r) : Z E yX12_reckonTo cX12_reckonTo 7 none 3 (sh, d) 167 [(0, .ref l0), (1, .int l1), (2, .int l2), (3, .int l3), (5, .int l5)] [.int t0] := by
  unfold f_X12_reckonTo_167 at hf
  refine z_istore [(6, .int t0), (0, .ref l0), (1, .int l1), (2, .int l2), (3, .int l3), (5, .int l5)] dX12_reckonTo_167 (by decide) rfl ?_
  refine z_iload_n 3 dX12_reckonTo_169 rfl rfl ?_
  refine z_if_ne 183 hf dX12_reckonTo_170 (by decide) (fun hf => ?_) (fun hf => ?_)
  · refine z_lv [(0, .ref l0), (1, .int l1), (3, .int l3)] [1, 2, 4] rfl ?_
    exact zb_X12_reckonTo_183 hE hk42 hk50 hf
  · refine z_iload 5 dX12_reckonTo_173 rfl ?_
    refine z_if_ne 183 hf dX12_reckonTo_175 (by decide) (fun hf => ?_) (fun hf => ?_)
    · refine z_lv [(0, .ref l0), (1, .int l1), (3, .int l3)] [1, 2, 4] rfl ?_
      exact zb_X12_reckonTo_183 hE hk42 hk50 hf
    · refine z_iload 0 dX12_reckonTo_178 rfl ?_
      refine z_if_eq 187 hf dX12_reckonTo_180 (by decide) (fun hf => ?_) (fun hf => ?_)
      · refine z_iconst 0 0 dX12_reckonTo_187 (by decide) ?_
        refine z_lv [(0, .ref l0), (1, .int l1), (3, .int l3)] [1, 2, 4] rfl ?_
        exact zb_X12_reckonTo_188 hE hk42 hk50 hf
      · refine z_lv [(0, .ref l0), (1, .int l1), (3, .int l3)] [1, 2, 4] rfl ?_
        exact zb_X12_reckonTo_183 hE hk42 hk50 hf
set_option maxRecDepth 20000 in
theorem zb_X12_reckonTo_166 {N : Nat} {sh : Sh} {k42 : Nat → Int32 → Int32 → Dt → Option Dt} {k50 : Nat → Int32 → Int32 → Int32 → Dt → Option Dt} {r : Dt} {E : EV} (hE : TG E none (sh, r)) (hk42 : ∀ (l0 : Nat) (l1 : Int32) (l2 : Int32) (d : Dt), k42 l0 l1 l2 d = some r → Z E yX12_reckonTo cX12_reckonTo 7 none 3 (sh, d) 42 [(0, .ref l0), (1, .int l1), (2, .int l2)] []) (hk50 : ∀ (l0 : Nat) (l1 : Int32) (l2 : Int32) (l3 : Int32) (d : Dt), k50 l0 l1 l2 l3 d = some r → Z E yX12_reckonTo cX12_reckonTo 7 none 3 (sh, d) 50 [(0, .ref l0), (1, .int l1), (2, .int l2), (3, .int l3)] []) {l0 : Nat} {l1 : Int32} {l2 : Int32} {l3 : Int32} {l5 : Int32} {d : Dt} (hf : f_X12_reckonTo_166 N sh k42 k50 l0 l1 l2 l3 l5 d = some r) : Z E yX12_reckonTo cX12_reckonTo 7 none 3 (sh, d) 166 [(0, .ref l0), (1, .int l1), (2, .int l2), (3, .int l3), (5, .int l5)] [] := by
  unfold f_X12_reckonTo_166 at hf
  refine z_iconst 0 0 dX12_reckonTo_166 (by decide) ?_
  exact zb_X12_reckonTo_167 hE hk42 hk50 hf
set_option maxRecDepth 20000 in
theorem zg_X12_reckonTo_50 {N : Nat} {sh : Sh} {k42 : Nat → Int32 → Int32 → Dt → Option Dt} {r : Dt} {k50 : Nat → Int32 → Int32 → Int32 → Dt → Option Dt} {E : EV} (hE : TG E none (sh, r)) (hk42 : ∀ (l0 : Nat) (l1 : Int32) (l2 : Int32) (d : Dt), k42 l0 l1 l2 d = some r → Z E yX12_reckonTo cX12_reckonTo 7 none 3 (sh, d) 42 [(0, .ref l0), (1, .int l1), (2, .int l2)] []) (hk50 : ∀ (l0 : Nat) (l1 : Int32) (l2 : Int32) (l3 : Int32) (d : Dt), k50 l0 l1 l2 l3 d = some r → Z E yX12_reckonTo cX12_reckonTo 7 none 3 (sh, d) 50 [(0, .ref l0), (1, .int l1), (2, .int l2), (3, .int l3)] []) {l0 : Nat} {l1 : Int32} {l2 : Int32} {l3 : Int32} {d : Dt} (hf : g_X12_reckonTo_50 N sh k42 k50 l0 l1 l2 l3 d = some r) : Z E yX12_reckonTo cX12_reckonTo 7 none 3 (sh, d) 50 [(0, .ref l0), (1, .int l1), (2, .int l2), (3, .int l3)] [] := by
  unfold g_X12_reckonTo_50 at hf
  refine z_iload_n 3 dX12_reckonTo_50 rfl rfl ?_
  refine z_aload_n 0 dX12_reckonTo_51 rfl rfl ?_
  refine z_gP (ci := 12) (k := 0) (C := RX12) (T := TX12) (N := 32) rfl inlX12 (by decide) mw_6_19 (fun _ _ _ _ h9 => h9) hf (by decide) rfl dX12_reckonTo_52  (fun v5 hf => ?_)
  refine z_iconst 1 1 dX12_reckonTo_55 (by decide) ?_
  refine z_aI hf dX12_reckonTo_56  (fun v6 hf => ?_)
  refine z_icmp_ge 195 hf dX12_reckonTo_57 (by decide) (fun hf => ?_) (fun hf => ?_)
  · refine z_lv [(0, .ref l0), (1, .int l1), (2, .int l2)] [0, 1, 2] rfl ?_
    exact zb_X12_reckonTo_195 hE hk42 hf
  · refine z_aload_n 0 dX12_reckonTo_60 rfl rfl ?_
    refine z_iload_n 3 dX12_reckonTo_61 rfl rfl ?_
    obtain ⟨v7, ev7, hf⟩ := ob hf
    refine z_cVi (ci := 12) (T := TX12) (N := 32) (As := [.int l3]) (rest := []) (zm_X12_isOpen ev7).2 (zm_X12_isOpen ev7).1 (by decide) rfl (Or.inl rfl) mw_18_4 mw_18_5 mw_18_6 mw_1_5 mw_18_7 yk_X12_isOpen (by decide) (by decide) rfl (Nat.le_of_ble_eq_true rfl) rfl dX12_reckonTo_62 ?_
    refine z_if_eq 189 hf dX12_reckonTo_65 (by decide) (fun hf => ?_) (fun hf => ?_)
    · exact zb_X12_reckonTo_189 hE hk42 hk50 hf
    · refine z_aload_n 0 dX12_reckonTo_68 rfl rfl ?_
      refine z_iload_n 3 dX12_reckonTo_69 rfl rfl ?_
      obtain ⟨v8, ev8, hf⟩ := ob hf
      refine z_cVi (ci := 12) (T := TX12) (N := 32) (As := [.int l3]) (rest := []) (zm_X12_st ev8).2 (zm_X12_st ev8).1 (by decide) rfl (Or.inl rfl) mw_13_10 mw_13_11 mw_13_12 mw_1_5 mw_13_13 yk_X12_st (by decide) (by decide) rfl (Nat.le_of_ble_eq_true rfl) rfl dX12_reckonTo_70 ?_
      refine z_istore [(4, .int v8), (0, .ref l0), (1, .int l1), (2, .int l2), (3, .int l3)] dX12_reckonTo_73 (by decide) rfl ?_
      refine z_aload_n 1 dX12_reckonTo_75 rfl rfl ?_
      refine z_aload_n 1 dX12_reckonTo_76 rfl rfl ?_
      refine z_gP (ci := 12) (k := 0) (C := RX12) (T := TX12) (N := 32) rfl inlX12 (by decide) mw_6_19 (fun _ _ _ _ h9 => h9) hf (by decide) rfl dX12_reckonTo_77  (fun v9 hf => ?_)
      refine z_iload 0 dX12_reckonTo_80 rfl ?_
      refine z_bipush 7 7 dX12_reckonTo_82 (by decide) ?_
      refine z_iadd dX12_reckonTo_84 ?_
      refine z_aI hf dX12_reckonTo_85  (fun v10 hf => ?_)
      refine z_aload_n 1 dX12_reckonTo_86 rfl rfl ?_
      refine z_gP (ci := 12) (k := 0) (C := RX12) (T := TX12) (N := 32) rfl inlX12 (by decide) mw_6_19 (fun _ _ _ _ h9 => h9) hf (by decide) rfl dX12_reckonTo_87  (fun v11 hf => ?_)
      refine z_iload 0 dX12_reckonTo_90 rfl ?_
      refine z_bipush 8 8 dX12_reckonTo_92 (by decide) ?_
      refine z_iadd dX12_reckonTo_94 ?_
      refine z_aI hf dX12_reckonTo_95  (fun v12 hf => ?_)
      refine z_aload_n 1 dX12_reckonTo_96 rfl rfl ?_
      refine z_gP (ci := 12) (k := 0) (C := RX12) (T := TX12) (N := 32) rfl inlX12 (by decide) mw_6_19 (fun _ _ _ _ h9 => h9) hf (by decide) rfl dX12_reckonTo_97  (fun v13 hf => ?_)
      refine z_iload 0 dX12_reckonTo_100 rfl ?_
      refine z_bipush 6 6 dX12_reckonTo_102 (by decide) ?_
      refine z_iadd dX12_reckonTo_104 ?_
      refine z_aI hf dX12_reckonTo_105  (fun v14 hf => ?_)
      refine z_iload_n 2 dX12_reckonTo_106 rfl rfl ?_
      obtain ⟨v15, ev15, hf⟩ := ob hf
      refine z_cVi (ci := 12) (T := TX12) (N := 32) (As := [.int v10, .int v12, .int v14, .int l1]) (rest := []) (zm_X12_lessens ev15).2 (zm_X12_lessens ev15).1 (by decide) rfl (Or.inl rfl) mw_18_8 mw_18_9 mw_18_10 mw_1_5 mw_18_11 yk_X12_lessens (by decide) (by decide) rfl (Nat.le_of_ble_eq_true rfl) rfl dX12_reckonTo_107 ?_
      refine z_istore [(5, .int v15.1), (4, .int v8), (0, .ref l0), (1, .int l1), (2, .int l2), (3, .int l3)] dX12_reckonTo_110 (by decide) rfl ?_
      refine z_aload_n 2 dX12_reckonTo_112 rfl rfl ?_
      refine z_gP (ci := 12) (k := 0) (C := RX12) (T := TX12) (N := 32) rfl inlX12 (by decide) mw_6_19 (fun _ _ _ _ h9 => h9) hf (by decide) rfl dX12_reckonTo_113  (fun v16 hf => ?_)
      refine z_iload 1 dX12_reckonTo_116 rfl ?_
      refine z_iconst 5 5 dX12_reckonTo_118 (by decide) ?_
      refine z_iadd dX12_reckonTo_119 ?_
      refine z_aI hf dX12_reckonTo_120  (fun v17 hf => ?_)
      refine z_if_ne 166 hf dX12_reckonTo_121 (by decide) (fun hf => ?_) (fun hf => ?_)
      · refine z_lv [(0, .ref l0), (1, .int l1), (2, .int l2), (3, .int l3), (5, .int v15.1)] [2, 3, 4, 5, 0] rfl ?_
        exact zb_X12_reckonTo_166 hE hk42 hk50 hf
      · refine z_aload_n 2 dX12_reckonTo_124 rfl rfl ?_
        refine z_aload_n 2 dX12_reckonTo_125 rfl rfl ?_
        refine z_gP (ci := 12) (k := 0) (C := RX12) (T := TX12) (N := 32) rfl inlX12 (by decide) mw_6_19 (fun _ _ _ _ h9 => h9) hf (by decide) rfl dX12_reckonTo_126  (fun v18 hf => ?_)
        refine z_iload 1 dX12_reckonTo_129 rfl ?_
        refine z_bipush 8 8 dX12_reckonTo_131 (by decide) ?_
        refine z_iadd dX12_reckonTo_133 ?_
        refine z_aI hf dX12_reckonTo_134  (fun v19 hf => ?_)
        refine z_aload_n 2 dX12_reckonTo_135 rfl rfl ?_
        refine z_gP (ci := 12) (k := 0) (C := RX12) (T := TX12) (N := 32) rfl inlX12 (by decide) mw_6_19 (fun _ _ _ _ h9 => h9) hf (by decide) rfl dX12_reckonTo_136  (fun v20 hf => ?_)
        refine z_iload 1 dX12_reckonTo_139 rfl ?_
        refine z_bipush 7 7 dX12_reckonTo_141 (by decide) ?_
        refine z_iadd dX12_reckonTo_143 ?_
        refine z_aI hf dX12_reckonTo_144  (fun v21 hf => ?_)
        refine z_aload_n 2 dX12_reckonTo_145 rfl rfl ?_
        refine z_gP (ci := 12) (k := 0) (C := RX12) (T := TX12) (N := 32) rfl inlX12 (by decide) mw_6_19 (fun _ _ _ _ h9 => h9) hf (by decide) rfl dX12_reckonTo_146  (fun v22 hf => ?_)
        refine z_iload 1 dX12_reckonTo_149 rfl ?_
        refine z_bipush 6 6 dX12_reckonTo_151 (by decide) ?_
        refine z_iadd dX12_reckonTo_153 ?_
        refine z_aI hf dX12_reckonTo_154  (fun v23 hf => ?_)
        refine z_iload_n 3 dX12_reckonTo_155 rfl rfl ?_
        obtain ⟨v24, ev24, hf⟩ := ob hf
        refine z_cVi (ci := 12) (T := TX12) (N := 32) (As := [.int v19, .int v21, .int v23, .int l1]) (rest := []) (zm_X12_lessens ev24).2 (zm_X12_lessens ev24).1 (by decide) rfl (Or.inl rfl) mw_18_8 mw_18_9 mw_18_10 mw_1_5 mw_18_11 yk_X12_lessens (by decide) (by decide) rfl (Nat.le_of_ble_eq_true rfl) rfl dX12_reckonTo_156 ?_
        refine z_if_eq 166 hf dX12_reckonTo_159 (by decide) (fun hf => ?_) (fun hf => ?_)
        · refine z_lv [(0, .ref l0), (1, .int l1), (2, .int l2), (3, .int l3), (5, .int v15.1)] [2, 3, 4, 5, 0] rfl ?_
          exact zb_X12_reckonTo_166 hE hk42 hk50 hf
        · refine z_iconst 1 1 dX12_reckonTo_162 (by decide) ?_
          refine z_goto 167 dX12_reckonTo_163 (by decide) ?_
          refine z_lv [(0, .ref l0), (1, .int l1), (2, .int l2), (3, .int l3), (5, .int v15.1)] [2, 3, 4, 5, 0] rfl ?_
          exact zb_X12_reckonTo_167 hE hk42 hk50 hf
set_option maxRecDepth 20000 in
theorem zb_X12_reckonTo_50 {N : Nat} {sh : Sh} {k42 : Nat → Int32 → Int32 → Dt → Option Dt} {r : Dt} {E : EV} (hE : TG E none (sh, r)) (hk42 : ∀ (l0 : Nat) (l1 : Int32) (l2 : Int32) (d : Dt), k42 l0 l1 l2 d = some r → Z E yX12_reckonTo cX12_reckonTo 7 none 3 (sh, d) 42 [(0, .ref l0), (1, .int l1), (2, .int l2)] []) : ∀ (n : Nat) (l0 : Nat) (l1 : Int32) (l2 : Int32) (l3 : Int32) (d : Dt), f_X12_reckonTo_50 N sh k42 n l0 l1 l2 l3 d = some r → Z E yX12_reckonTo cX12_reckonTo 7 none 3 (sh, d) 50 [(0, .ref l0), (1, .int l1), (2, .int l2), (3, .int l3)] [] := by
  intro n
  induction n with
  | zero => intro l0 l1 l2 l3 d hf; cases hf
  | succ n ih => intro l0 l1 l2 l3 d hf; exact zg_X12_reckonTo_50 hE hk42 ih hf
set_option maxRecDepth 20000 in
theorem zg_X12_reckonTo_42 {N : Nat} {sh : Sh} {r : Dt} {k42 : Nat → Int32 → Int32 → Dt → Option Dt} {E : EV} (hE : TG E none (sh, r))  (hk42 : ∀ (l0 : Nat) (l1 : Int32) (l2 : Int32) (d : Dt), k42 l0 l1 l2 d = some r → Z E yX12_reckonTo cX12_reckonTo 7 none 3 (sh, d) 42 [(0, .ref l0), (1, .int l1), (2, .int l2)] []) {l0 : Nat} {l1 : Int32} {l2 : Int32} {d : Dt} (hf : g_X12_reckonTo_42 N sh k42 l0 l1 l2 d = some r) : Z E yX12_reckonTo cX12_reckonTo 7 none 3 (sh, d) 42 [(0, .ref l0), (1, .int l1), (2, .int l2)] [] := by
  unfold g_X12_reckonTo_42 at hf
  refine z_iload_n 2 dX12_reckonTo_42 rfl rfl ?_
  refine z_if_eq 198 hf dX12_reckonTo_43 (by decide) (fun hf => ?_) (fun hf => ?_)
  · refine z_lv [] [] rfl ?_
    exact zb_X12_reckonTo_198 hE hf
  · refine z_iconst 0 0 dX12_reckonTo_46 (by decide) ?_
    refine z_istore_n [(2, .int (0 : Int32)), (0, .ref l0), (1, .int l1)] dX12_reckonTo_47 rfl (by decide) rfl ?_
    refine z_iconst 0 0 dX12_reckonTo_48 (by decide) ?_
    refine z_istore_n [(3, .int (0 : Int32)), (2, .int (0 : Int32)), (0, .ref l0), (1, .int l1)] dX12_reckonTo_49 rfl (by decide) rfl ?_
    refine z_lv [(0, .ref l0), (1, .int l1), (2, .int (0 : Int32)), (3, .int (0 : Int32))] [2, 3, 1, 0] rfl ?_
    exact zb_X12_reckonTo_50 hE hk42 N _ _ _ _ _ hf
set_option maxRecDepth 20000 in
theorem zb_X12_reckonTo_42 {N : Nat} {sh : Sh} {r : Dt} {E : EV} (hE : TG E none (sh, r))  : ∀ (n : Nat) (l0 : Nat) (l1 : Int32) (l2 : Int32) (d : Dt), f_X12_reckonTo_42 N sh n l0 l1 l2 d = some r → Z E yX12_reckonTo cX12_reckonTo 7 none 3 (sh, d) 42 [(0, .ref l0), (1, .int l1), (2, .int l2)] [] := by
  intro n
  induction n with
  | zero => intro l0 l1 l2 d hf; cases hf
  | succ n ih => intro l0 l1 l2 d hf; exact zg_X12_reckonTo_42 hE ih hf
set_option maxRecDepth 20000 in
theorem zb_X12_reckonTo_40 {N : Nat} {sh : Sh} {r : Dt} {E : EV} (hE : TG E none (sh, r))  {l0 : Nat} {l1 : Int32} {d : Dt} (hf : f_X12_reckonTo_40 N sh l0 l1 d = some r) : Z E yX12_reckonTo cX12_reckonTo 7 none 3 (sh, d) 40 [(0, .ref l0), (1, .int l1)] [] := by
  unfold f_X12_reckonTo_40 at hf
  refine z_iconst 1 1 dX12_reckonTo_40 (by decide) ?_
  refine z_istore_n [(2, .int (1 : Int32)), (0, .ref l0), (1, .int l1)] dX12_reckonTo_41 rfl (by decide) rfl ?_
  refine z_lv [(0, .ref l0), (1, .int l1), (2, .int (1 : Int32))] [1, 2, 0] rfl ?_
  exact zb_X12_reckonTo_42 hE N _ _ _ _ hf
set_option maxRecDepth 20000 in
theorem zb_X12_reckonTo_33 {N : Nat} {sh : Sh} {k2 : Nat → Int32 → Int32 → Dt → Option Dt} {r : Dt} {E : EV} (hE : TG E none (sh, r)) (hk2 : ∀ (l0 : Nat) (l1 : Int32) (l2 : Int32) (d : Dt), k2 l0 l1 l2 d = some r → Z E yX12_reckonTo cX12_reckonTo 7 none 3 (sh, d) 2 [(0, .ref l0), (1, .int l1), (2, .int l2)] []) {l0 : Nat} {l1 : Int32} {l2 : Int32} {t0 : Nat} {t1 : Int32} {t2 : Int32} {d : Dt} (hf : f_X12_reckonTo_33 N sh k2 l0 l1 l2 t0 t1 t2 d = some r) : Z E yX12_reckonTo cX12_reckonTo 7 none 3 (sh, d) 33 [(0, .ref l0), (1, .int l1), (2, .int l2)] [.int t2, .int t1, .ref t0] := by
  unfold f_X12_reckonTo_33 at hf
  refine z_sI hf dX12_reckonTo_33  (fun d4 hf => ?_)
  refine z_iinc [(2, .int (l2 + 1)), (0, .ref l0), (1, .int l1)] 2 (l2 + 1) dX12_reckonTo_34 rfl rfl (by decide) rfl ?_
  refine z_goto 2 dX12_reckonTo_37 (by decide) ?_
  refine z_lv [(0, .ref l0), (1, .int l1), (2, .int (l2 + 1))] [1, 2, 0] rfl ?_
  exact hk2 _ _ _ _ hf
set_option maxRecDepth 20000 in
theorem zg_X12_reckonTo_2 {N : Nat} {sh : Sh} {r : Dt} {k2 : Nat → Int32 → Int32 → Dt → Option Dt} {E : EV} (hE : TG E none (sh, r))  (hk2 : ∀ (l0 : Nat) (l1 : Int32) (l2 : Int32) (d : Dt), k2 l0 l1 l2 d = some r → Z E yX12_reckonTo cX12_reckonTo 7 none 3 (sh, d) 2 [(0, .ref l0), (1, .int l1), (2, .int l2)] []) {l0 : Nat} {l1 : Int32} {l2 : Int32} {d : Dt} (hf : g_X12_reckonTo_2 N sh k2 l0 l1 l2 d = some r) : Z E yX12_reckonTo cX12_reckonTo 7 none 3 (sh, d) 2 [(0, .ref l0), (1, .int l1), (2, .int l2)] [] := by
  unfold g_X12_reckonTo_2 at hf
  refine z_iload_n 2 dX12_reckonTo_2 rfl rfl ?_
  refine z_aload_n 0 dX12_reckonTo_3 rfl rfl ?_
  refine z_gP (ci := 12) (k := 0) (C := RX12) (T := TX12) (N := 32) rfl inlX12 (by decide) mw_6_19 (fun _ _ _ _ h9 => h9) hf (by decide) rfl dX12_reckonTo_4  (fun v1 hf => ?_)
  refine z_iconst 0 0 dX12_reckonTo_7 (by decide) ?_
  refine z_aI hf dX12_reckonTo_8  (fun v2 hf => ?_)
  refine z_icmp_ge 40 hf dX12_reckonTo_9 (by decide) (fun hf => ?_) (fun hf => ?_)
  · refine z_lv [(0, .ref l0), (1, .int l1)] [0, 1] rfl ?_
    exact zb_X12_reckonTo_40 hE hf
  · refine z_aload_n 0 dX12_reckonTo_12 rfl rfl ?_
    refine z_gP (ci := 12) (k := 9) (C := RX12) (T := TX12) (N := 32) rfl inlX12 (by decide) mw_6_23 (fun _ _ _ _ h9 => h9) hf (by decide) rfl dX12_reckonTo_13  (fun v3 hf => ?_)
    refine z_bipush 60 60 dX12_reckonTo_16 (by decide) ?_
    refine z_iload_n 2 dX12_reckonTo_18 rfl rfl ?_
    refine z_imul dX12_reckonTo_19 ?_
    refine z_iload_n 1 dX12_reckonTo_20 rfl rfl ?_
    refine z_iadd dX12_reckonTo_21 ?_
    refine z_iload_n 2 dX12_reckonTo_22 rfl rfl ?_
    refine z_iload_n 1 dX12_reckonTo_23 rfl rfl ?_
    refine z_icmp_ne 31 hf dX12_reckonTo_24 (by decide) (fun hf => ?_) (fun hf => ?_)
    · refine z_ldc mw_17_19 dX12_reckonTo_31 ?_
      exact zb_X12_reckonTo_33 hE hk2 hf
    · refine z_iconst 0 0 dX12_reckonTo_27 (by decide) ?_
      refine z_goto 33 dX12_reckonTo_28 (by decide) ?_
      exact zb_X12_reckonTo_33 hE hk2 hf
set_option maxRecDepth 20000 in
theorem zb_X12_reckonTo_2 {N : Nat} {sh : Sh} {r : Dt} {E : EV} (hE : TG E none (sh, r))  : ∀ (n : Nat) (l0 : Nat) (l1 : Int32) (l2 : Int32) (d : Dt), f_X12_reckonTo_2 N sh n l0 l1 l2 d = some r → Z E yX12_reckonTo cX12_reckonTo 7 none 3 (sh, d) 2 [(0, .ref l0), (1, .int l1), (2, .int l2)] [] := by
  intro n
  induction n with
  | zero => intro l0 l1 l2 d hf; cases hf
  | succ n ih => intro l0 l1 l2 d hf; exact zg_X12_reckonTo_2 hE ih hf
set_option maxRecDepth 20000 in
theorem zm_X12_reckonTo {N : Nat} {sh : Sh} {d : Dt} {l0 : Nat} {l1 : Int32} {r : Dt} (hf : f_X12_reckonTo N sh l0 l1 d = some r) : isO sh l0 12 ∧ ∀ (l : Launch) (G : GG), Mt l G yX12_reckonTo cX12_reckonTo 7 none 3 [.ref l0, .int l1] (sh, d) none (sh, r) := by
  have hf0 := hf
  unfold f_X12_reckonTo at hf
  refine ite_d hf (fun hO hf => ?_) (fun _ hf => ?_)
  · refine ⟨hO, fun l G => mt_of (Or.inl (by decide)) (Nat.le_of_ble_eq_true rfl) Le.rf (fun E hE => ?_)⟩
    show Z E yX12_reckonTo cX12_reckonTo 7 none 3 (sh, d) 0 [(0, .ref l0), (1, .int l1)] []
    refine z_iconst 0 0 dX12_reckonTo_0 (by decide) ?_
    refine z_istore_n [(2, .int (0 : Int32)), (0, .ref l0), (1, .int l1)] dX12_reckonTo_1 rfl (by decide) rfl ?_
    refine z_lv [(0, .ref l0), (1, .int l1), (2, .int (0 : Int32))] [1, 2, 0] rfl ?_
    exact zb_X12_reckonTo_2 hE N _ _ _ _ hf
  · cases hf
set_option maxRecDepth 20000 in
theorem zb_X12_reckon_35 {N : Nat} {sh : Sh} {r : Dt} {E : EV} (hE : TG E none (sh, r))   {d : Dt} (hf : f_X12_reckon_35 N sh  d = some r) : Z E yX12_reckon cX12_reckon 2 none 4 (sh, d) 35 [] [] := by
  unfold f_X12_reckon_35 at hf
  cases hf
  exact z_return hE rfl dX12_reckon_35
set_option maxRecDepth 20000 in
theorem zb_X12_reckon_30 {N : Nat} {sh : Sh} {r : Dt} {E : EV} (hE : TG E none (sh, r))  {l0 : Nat} {d : Dt} (hf : f_X12_reckon_30 N sh l0 d = some r) : Z E yX12_reckon cX12_reckon 2 none 4 (sh, d) 30 [(0, .ref l0)] [] := by
  unfold f_X12_reckon_30 at hf
  refine z_aload_n 0 dX12_reckon_30 rfl rfl ?_
  refine z_iconst 1 1 dX12_reckon_31 (by decide) ?_
  refine z_pI (ci := 12) (k := 10) (C := RX12) (T := TX12) (N := 32) rfl inlX12 (by decide) mw_11_10 (fun _ _ _ _ h9 => h9) tyX12 tyX12_ok nmX12 rfl hf (Or.inl (by decide)) rfl rfl rfl dX12_reckon_32  (fun d5 hf => ?_)
  refine z_lv [] [] rfl ?_
  exact zb_X12_reckon_35 hE hf
set_option maxRecDepth 20000 in
theorem zg_X12_reckon_9 {N : Nat} {sh : Sh} {r : Dt} {k9 : Nat → Int32 → Dt → Option Dt} {E : EV} (hE : TG E none (sh, r))  (hk9 : ∀ (l0 : Nat) (l1 : Int32) (d : Dt), k9 l0 l1 d = some r → Z E yX12_reckon cX12_reckon 2 none 4 (sh, d) 9 [(0, .ref l0), (1, .int l1)] []) {l0 : Nat} {l1 : Int32} {d : Dt} (hf : g_X12_reckon_9 N sh k9 l0 l1 d = some r) : Z E yX12_reckon cX12_reckon 2 none 4 (sh, d) 9 [(0, .ref l0), (1, .int l1)] [] := by
  unfold g_X12_reckon_9 at hf
  refine z_iload_n 1 dX12_reckon_9 rfl rfl ?_
  refine z_aload_n 0 dX12_reckon_10 rfl rfl ?_
  refine z_gP (ci := 12) (k := 0) (C := RX12) (T := TX12) (N := 32) rfl inlX12 (by decide) mw_6_19 (fun _ _ _ _ h9 => h9) hf (by decide) rfl dX12_reckon_11  (fun v2 hf => ?_)
  refine z_iconst 0 0 dX12_reckon_14 (by decide) ?_
  refine z_aI hf dX12_reckon_15  (fun v3 hf => ?_)
  refine z_icmp_ge 30 hf dX12_reckon_16 (by decide) (fun hf => ?_) (fun hf => ?_)
  · refine z_lv [(0, .ref l0)] [0] rfl ?_
    exact zb_X12_reckon_30 hE hf
  · refine z_aload_n 0 dX12_reckon_19 rfl rfl ?_
    refine z_iload_n 1 dX12_reckon_20 rfl rfl ?_
    obtain ⟨v4, ev4, hf⟩ := ob hf
    refine z_cVv (ci := 12) (T := TX12) (N := 32) (As := [.int l1]) (rest := []) (zm_X12_reckonTo ev4).2 (zm_X12_reckonTo ev4).1 (by decide) rfl (Or.inl rfl) mw_18_0 mw_18_1 mw_18_2 mw_1_5 mw_18_3 yk_X12_reckonTo (by decide) (by decide) rfl (Nat.le_of_ble_eq_true rfl) rfl dX12_reckon_21 ?_
    refine z_iinc [(1, .int (l1 + 1)), (0, .ref l0)] 1 (l1 + 1) dX12_reckon_24 rfl rfl (by decide) rfl ?_
    refine z_goto 9 dX12_reckon_27 (by decide) ?_
    refine z_lv [(0, .ref l0), (1, .int (l1 + 1))] [1, 0] rfl ?_
    exact hk9 _ _ _ hf
set_option maxRecDepth 20000 in
theorem zb_X12_reckon_9 {N : Nat} {sh : Sh} {r : Dt} {E : EV} (hE : TG E none (sh, r))  : ∀ (n : Nat) (l0 : Nat) (l1 : Int32) (d : Dt), f_X12_reckon_9 N sh n l0 l1 d = some r → Z E yX12_reckon cX12_reckon 2 none 4 (sh, d) 9 [(0, .ref l0), (1, .int l1)] [] := by
  intro n
  induction n with
  | zero => intro l0 l1 d hf; cases hf
  | succ n ih => intro l0 l1 d hf; exact zg_X12_reckon_9 hE ih hf
set_option maxRecDepth 20000 in
theorem zm_X12_reckon {N : Nat} {sh : Sh} {d : Dt} {l0 : Nat} {r : Dt} (hf : f_X12_reckon N sh l0 d = some r) : isO sh l0 12 ∧ ∀ (l : Launch) (G : GG), Mt l G yX12_reckon cX12_reckon 2 none 4 [.ref l0] (sh, d) none (sh, r) := by
  have hf0 := hf
  unfold f_X12_reckon at hf
  refine ite_d hf (fun hO hf => ?_) (fun _ hf => ?_)
  · refine ⟨hO, fun l G => mt_of (Or.inl (by decide)) (Nat.le_of_ble_eq_true rfl) Le.rf (fun E hE => ?_)⟩
    show Z E yX12_reckon cX12_reckon 2 none 4 (sh, d) 0 [(0, .ref l0)] []
    refine z_aload_n 0 dX12_reckon_0 rfl rfl ?_
    refine z_gI (ci := 12) (k := 10) (C := RX12) (T := TX12) (N := 32) rfl inlX12 (by decide) mw_11_10 (fun _ _ _ _ h9 => h9) hf (by decide) rfl dX12_reckon_1  (fun v1 hf => ?_)
    refine z_if_ne 35 hf dX12_reckon_4 (by decide) (fun hf => ?_) (fun hf => ?_)
    · refine z_lv [] [] rfl ?_
      exact zb_X12_reckon_35 hE hf
    · refine z_iconst 0 0 dX12_reckon_7 (by decide) ?_
      refine z_istore_n [(1, .int (0 : Int32)), (0, .ref l0)] dX12_reckon_8 rfl (by decide) rfl ?_
      refine z_lv [(0, .ref l0), (1, .int (0 : Int32))] [1, 0] rfl ?_
      exact zb_X12_reckon_9 hE N _ _ _ hf
  · cases hf
set_option maxRecDepth 20000 in
theorem zb_X12_least_40 {N : Nat} {sh : Sh} {r : Int32 × Dt} {E : EV} (hE : TG E (some (.int r.1)) (sh, r.2))  {l0 : Nat} {d : Dt} (hf : f_X12_least_40 N sh l0 d = some r) : Z E yX12_least cX12_least 2 (some .int) 5 (sh, d) 40 [(0, .ref l0)] [] := by
  unfold f_X12_least_40 at hf
  refine z_aload_n 0 dX12_least_40 rfl rfl ?_
  refine z_bipush (-2) (-2) dX12_least_41 (by decide) ?_
  obtain ⟨v15, ev15, hf⟩ := ob hf
  refine z_cVi (ci := 12) (T := TX12) (N := 32) (As := [.int (-2 : Int32)]) (rest := []) (zm_X12_refuses ev15).2 (zm_X12_refuses ev15).1 (by decide) rfl (Or.inl rfl) mw_11_14 mw_11_15 mw_11_16 mw_1_5 mw_11_17 yk_X12_refuses (by decide) (by decide) rfl (Nat.le_of_ble_eq_true rfl) rfl dX12_least_43 ?_
  cases hf
  exact z_ireturn hE rfl dX12_least_46
set_option maxRecDepth 20000 in
theorem zb_X12_least_86 {N : Nat} {sh : Sh} {r : Int32 × Dt} {E : EV} (hE : TG E (some (.int r.1)) (sh, r.2))  {t0 : Int32} {d : Dt} (hf : f_X12_least_86 N sh t0 d = some r) : Z E yX12_least cX12_least 2 (some .int) 5 (sh, d) 86 [] [.int t0] := by
  unfold f_X12_least_86 at hf
  cases hf
  exact z_ireturn hE rfl dX12_least_86
set_option maxRecDepth 20000 in
theorem zm_X12_least {N : Nat} {sh : Sh} {d : Dt} {l0 : Nat} {l1 : Int32} {r : Int32 × Dt} (hf : f_X12_least N sh l0 l1 d = some r) : isO sh l0 12 ∧ ∀ (l : Launch) (G : GG), Mt l G yX12_least cX12_least 2 (some .int) 5 [.ref l0, .int l1] (sh, d) (some (.int r.1)) (sh, r.2) := by
  have hf0 := hf
  unfold f_X12_least at hf
  refine ite_d hf (fun hO hf => ?_) (fun _ hf => ?_)
  · refine ⟨hO, fun l G => mt_of (Or.inl (by decide)) (Nat.le_of_ble_eq_true rfl) Le.rf (fun E hE => ?_)⟩
    show Z E yX12_least cX12_least 2 (some .int) 5 (sh, d) 0 [(0, .ref l0), (1, .int l1)] []
    refine z_aload_n 0 dX12_least_0 rfl rfl ?_
    obtain ⟨v1, ev1, hf⟩ := ob hf
    refine z_cVv (ci := 12) (T := TX12) (N := 32) (As := []) (rest := []) (zm_X12_beginTimes ev1).2 (zm_X12_beginTimes ev1).1 (by decide) rfl (Or.inl rfl) mw_40_9 mw_40_10 mw_40_11 mw_1_5 mw_40_12 yk_X12_beginTimes (by decide) (by decide) rfl (Nat.le_of_ble_eq_true rfl) rfl dX12_least_1 ?_
    refine z_aload_n 0 dX12_least_4 rfl rfl ?_
    obtain ⟨v2, ev2, hf⟩ := ob hf
    refine z_cVv (ci := 12) (T := TX12) (N := 32) (As := []) (rest := []) (zm_X12_findOdd ev2).2 (zm_X12_findOdd ev2).1 (by decide) rfl (Or.inl rfl) mw_40_17 mw_40_18 mw_40_19 mw_1_5 mw_40_20 yk_X12_findOdd (by decide) (by decide) rfl (Nat.le_of_ble_eq_true rfl) rfl dX12_least_5 ?_
    refine z_aload_n 0 dX12_least_8 rfl rfl ?_
    refine z_gI (ci := 12) (k := 16) (C := RX12) (T := TX12) (N := 32) rfl inlX12 (by decide) mw_40_8 (fun _ _ _ _ h9 => h9) hf (by decide) rfl dX12_least_9  (fun v3 hf => ?_)
    refine z_bipush 14 14 dX12_least_12 (by decide) ?_
    refine z_icmp_gt 40 hf dX12_least_14 (by decide) (fun hf => ?_) (fun hf => ?_)
    · refine z_lv [(0, .ref l0)] [0] rfl ?_
      exact zb_X12_least_40 hE hf
    · refine z_iload_n 1 dX12_least_17 rfl rfl ?_
      refine z_iconst 0 0 dX12_least_18 (by decide) ?_
      refine z_iconst 1 1 dX12_least_19 (by decide) ?_
      refine z_aload_n 0 dX12_least_20 rfl rfl ?_
      refine z_gI (ci := 12) (k := 16) (C := RX12) (T := TX12) (N := 32) rfl inlX12 (by decide) mw_40_8 (fun _ _ _ _ h9 => h9) hf (by decide) rfl dX12_least_21  (fun v4 hf => ?_)
      refine z_ishl dX12_least_24 ?_
      refine z_iconst 1 1 dX12_least_25 (by decide) ?_
      refine z_isub dX12_least_26 ?_
      obtain ⟨v5, ev5, hf⟩ := ob hf
      refine z_cTi (As := [.int l1, .int (0 : Int32), .int (((1 : Int32) <<< (v4 &&& 31)) - (1 : Int32))]) (rest := []) (zm_X12_in ev5) (Or.inl rfl) mw_11_11 mw_11_12 mw_1_5 mw_11_13 yk_X12_in (by decide) (by decide) rfl (Nat.le_of_ble_eq_true rfl) rfl dX12_least_27 ?_
      refine z_if_eq 40 hf dX12_least_30 (by decide) (fun hf => ?_) (fun hf => ?_)
      · refine z_lv [(0, .ref l0)] [0] rfl ?_
        exact zb_X12_least_40 hE hf
      · refine z_aload_n 0 dX12_least_33 rfl rfl ?_
        obtain ⟨v6, ev6, hf⟩ := ob hf
        refine z_cVi (ci := 12) (T := TX12) (N := 32) (As := []) (rest := []) (zm_X12_isOneWay ev6).2 (zm_X12_isOneWay ev6).1 (by decide) rfl (Or.inl rfl) mw_42_8 mw_42_9 mw_42_10 mw_1_5 mw_42_11 yk_X12_isOneWay (by decide) (by decide) rfl (Nat.le_of_ble_eq_true rfl) rfl dX12_least_34 ?_
        refine z_if_eq 47 hf dX12_least_37 (by decide) (fun hf => ?_) (fun hf => ?_)
        · refine z_aload_n 0 dX12_least_47 rfl rfl ?_
          obtain ⟨v7, ev7, hf⟩ := ob hf
          refine z_cVv (ci := 12) (T := TX12) (N := 32) (As := []) (rest := []) (zm_X12_reckon ev7).2 (zm_X12_reckon ev7).1 (by decide) rfl (Or.inl rfl) mw_17_20 mw_17_21 mw_17_22 mw_1_5 mw_17_23 yk_X12_reckon (by decide) (by decide) rfl (Nat.le_of_ble_eq_true rfl) rfl dX12_least_48 ?_
          refine z_aload_n 0 dX12_least_51 rfl rfl ?_
          refine z_iload_n 1 dX12_least_52 rfl rfl ?_
          obtain ⟨v8, ev8, hf⟩ := ob hf
          refine z_cVv (ci := 12) (T := TX12) (N := 32) (As := [.int l1]) (rest := []) (zm_X12_findLeast ev8).2 (zm_X12_findLeast ev8).1 (by decide) rfl (Or.inl rfl) mw_42_12 mw_42_13 mw_42_14 mw_1_5 mw_42_15 yk_X12_findLeast (by decide) (by decide) rfl (Nat.le_of_ble_eq_true rfl) rfl dX12_least_53 ?_
          refine z_aload_n 0 dX12_least_56 rfl rfl ?_
          refine z_gP (ci := 12) (k := 18) (C := RX12) (T := TX12) (N := 32) rfl inlX12 (by decide) mw_7_7 (fun _ _ _ _ h9 => h9) hf (by decide) rfl dX12_least_57  (fun v9 hf => ?_)
          refine z_iload_n 1 dX12_least_60 rfl rfl ?_
          refine z_aI hf dX12_least_61  (fun v10 hf => ?_)
          refine z_ldc mw_17_19 dX12_least_62 ?_
          refine z_icmp_lt 76 hf dX12_least_64 (by decide) (fun hf => ?_) (fun hf => ?_)
          · refine z_aload_n 0 dX12_least_76 rfl rfl ?_
            refine z_aload_n 0 dX12_least_77 rfl rfl ?_
            refine z_gP (ci := 12) (k := 18) (C := RX12) (T := TX12) (N := 32) rfl inlX12 (by decide) mw_7_7 (fun _ _ _ _ h9 => h9) hf (by decide) rfl dX12_least_78  (fun v11 hf => ?_)
            refine z_iload_n 1 dX12_least_81 rfl rfl ?_
            refine z_aI hf dX12_least_82  (fun v12 hf => ?_)
            obtain ⟨v13, ev13, hf⟩ := ob hf
            refine z_cVi (ci := 12) (T := TX12) (N := 32) (As := [.int v12]) (rest := []) (zm_X12_says ev13).2 (zm_X12_says ev13).1 (by decide) rfl (Or.inl rfl) mw_12_4 mw_12_5 mw_12_6 mw_1_5 mw_12_7 yk_X12_says (by decide) (by decide) rfl (Nat.le_of_ble_eq_true rfl) rfl dX12_least_83 ?_
            refine z_lv [] [] rfl ?_
            exact zb_X12_least_86 hE hf
          · refine z_aload_n 0 dX12_least_67 rfl rfl ?_
            refine z_bipush (-8) (-8) dX12_least_68 (by decide) ?_
            obtain ⟨v14, ev14, hf⟩ := ob hf
            refine z_cVi (ci := 12) (T := TX12) (N := 32) (As := [.int (-8 : Int32)]) (rest := []) (zm_X12_refuses ev14).2 (zm_X12_refuses ev14).1 (by decide) rfl (Or.inl rfl) mw_11_14 mw_11_15 mw_11_16 mw_1_5 mw_11_17 yk_X12_refuses (by decide) (by decide) rfl (Nat.le_of_ble_eq_true rfl) rfl dX12_least_70 ?_
            refine z_goto 86 dX12_least_73 (by decide) ?_
            refine z_lv [] [] rfl ?_
            exact zb_X12_least_86 hE hf
        · refine z_lv [(0, .ref l0)] [0] rfl ?_
          exact zb_X12_least_40 hE hf
  · cases hf
set_option maxRecDepth 20000 in
theorem zb_X12_losesPart_27 {N : Nat} {sh : Sh} {r : Dt} {E : EV} (hE : TG E none (sh, r))   {d : Dt} (hf : f_X12_losesPart_27 N sh  d = some r) : Z E yX12_losesPart cX12_losesPart 3 none 2 (sh, d) 27 [] [] := by
  unfold f_X12_losesPart_27 at hf
  cases hf
  exact z_return hE rfl dX12_losesPart_27
set_option maxRecDepth 20000 in
theorem zg_X12_losesPart_2 {N : Nat} {sh : Sh} {r : Dt} {k2 : Nat → Int32 → Int32 → Dt → Option Dt} {E : EV} (hE : TG E none (sh, r))  (hk2 : ∀ (l0 : Nat) (l1 : Int32) (l2 : Int32) (d : Dt), k2 l0 l1 l2 d = some r → Z E yX12_losesPart cX12_losesPart 3 none 2 (sh, d) 2 [(0, .ref l0), (1, .int l1), (2, .int l2)] []) {l0 : Nat} {l1 : Int32} {l2 : Int32} {d : Dt} (hf : g_X12_losesPart_2 N sh k2 l0 l1 l2 d = some r) : Z E yX12_losesPart cX12_losesPart 3 none 2 (sh, d) 2 [(0, .ref l0), (1, .int l1), (2, .int l2)] [] := by
  unfold g_X12_losesPart_2 at hf
  refine z_iload_n 2 dX12_losesPart_2 rfl rfl ?_
  refine z_bipush 13 13 dX12_losesPart_3 (by decide) ?_
  refine z_icmp_ge 27 hf dX12_losesPart_5 (by decide) (fun hf => ?_) (fun hf => ?_)
  · refine z_lv [] [] rfl ?_
    exact zb_X12_losesPart_27 hE hf
  · refine z_aload_n 0 dX12_losesPart_8 rfl rfl ?_
    refine z_gP (ci := 12) (k := 0) (C := RX12) (T := TX12) (N := 32) rfl inlX12 (by decide) mw_6_19 (fun _ _ _ _ h9 => h9) hf (by decide) rfl dX12_losesPart_9  (fun v1 hf => ?_)
    refine z_aload_n 0 dX12_losesPart_12 rfl rfl ?_
    refine z_iload_n 1 dX12_losesPart_13 rfl rfl ?_
    obtain ⟨v2, ev2, hf⟩ := ob hf
    refine z_cVi (ci := 12) (T := TX12) (N := 32) (As := [.int l1]) (rest := [.ref v1]) (zm_X12_pl ev2).2 (zm_X12_pl ev2).1 (by decide) rfl (Or.inl rfl) mw_31_6 mw_31_7 mw_31_8 mw_1_5 mw_31_9 yk_X12_pl (by decide) (by decide) rfl (Nat.le_of_ble_eq_true rfl) rfl dX12_losesPart_14 ?_
    refine z_iload_n 2 dX12_losesPart_17 rfl rfl ?_
    refine z_iadd dX12_losesPart_18 ?_
    refine z_iconst 0 0 dX12_losesPart_19 (by decide) ?_
    refine z_sI hf dX12_losesPart_20  (fun d3 hf => ?_)
    refine z_iinc [(2, .int (l2 + 1)), (0, .ref l0), (1, .int l1)] 2 (l2 + 1) dX12_losesPart_21 rfl rfl (by decide) rfl ?_
    refine z_goto 2 dX12_losesPart_24 (by decide) ?_
    refine z_lv [(0, .ref l0), (1, .int l1), (2, .int (l2 + 1))] [1, 2, 0] rfl ?_
    exact hk2 _ _ _ _ hf
set_option maxRecDepth 20000 in
theorem zb_X12_losesPart_2 {N : Nat} {sh : Sh} {r : Dt} {E : EV} (hE : TG E none (sh, r))  : ∀ (n : Nat) (l0 : Nat) (l1 : Int32) (l2 : Int32) (d : Dt), f_X12_losesPart_2 N sh n l0 l1 l2 d = some r → Z E yX12_losesPart cX12_losesPart 3 none 2 (sh, d) 2 [(0, .ref l0), (1, .int l1), (2, .int l2)] [] := by
  intro n
  induction n with
  | zero => intro l0 l1 l2 d hf; cases hf
  | succ n ih => intro l0 l1 l2 d hf; exact zg_X12_losesPart_2 hE ih hf
set_option maxRecDepth 20000 in
theorem zm_X12_losesPart {N : Nat} {sh : Sh} {d : Dt} {l0 : Nat} {l1 : Int32} {r : Dt} (hf : f_X12_losesPart N sh l0 l1 d = some r) : isO sh l0 12 ∧ ∀ (l : Launch) (G : GG), Mt l G yX12_losesPart cX12_losesPart 3 none 2 [.ref l0, .int l1] (sh, d) none (sh, r) := by
  have hf0 := hf
  unfold f_X12_losesPart at hf
  refine ite_d hf (fun hO hf => ?_) (fun _ hf => ?_)
  · refine ⟨hO, fun l G => mt_of (Or.inl (by decide)) (Nat.le_of_ble_eq_true rfl) Le.rf (fun E hE => ?_)⟩
    show Z E yX12_losesPart cX12_losesPart 3 none 2 (sh, d) 0 [(0, .ref l0), (1, .int l1)] []
    refine z_iconst 5 5 dX12_losesPart_0 (by decide) ?_
    refine z_istore_n [(2, .int (5 : Int32)), (0, .ref l0), (1, .int l1)] dX12_losesPart_1 rfl (by decide) rfl ?_
    refine z_lv [(0, .ref l0), (1, .int l1), (2, .int (5 : Int32))] [1, 2, 0] rfl ?_
    exact zb_X12_losesPart_2 hE N _ _ _ _ hf
  · cases hf
set_option maxRecDepth 20000 in
theorem zm_X12_leaves {N : Nat} {sh : Sh} {d : Dt} {l0 : Nat} {l1 : Int32} {r : Dt} (hf : f_X12_leaves N sh l0 l1 d = some r) : isO sh l0 12 ∧ ∀ (l : Launch) (G : GG), Mt l G yX12_leaves cX12_leaves 2 none 3 [.ref l0, .int l1] (sh, d) none (sh, r) := by
  have hf0 := hf
  unfold f_X12_leaves at hf
  refine ite_d hf (fun hO hf => ?_) (fun _ hf => ?_)
  · refine ⟨hO, fun l G => mt_of (Or.inl (by decide)) (Nat.le_of_ble_eq_true rfl) Le.rf (fun E hE => ?_)⟩
    show Z E yX12_leaves cX12_leaves 2 none 3 (sh, d) 0 [(0, .ref l0), (1, .int l1)] []
    refine z_aload_n 0 dX12_leaves_0 rfl rfl ?_
    refine z_gP (ci := 12) (k := 0) (C := RX12) (T := TX12) (N := 32) rfl inlX12 (by decide) mw_6_19 (fun _ _ _ _ h9 => h9) hf (by decide) rfl dX12_leaves_1  (fun v1 hf => ?_)
    refine z_aload_n 0 dX12_leaves_4 rfl rfl ?_
    refine z_iload_n 1 dX12_leaves_5 rfl rfl ?_
    obtain ⟨v2, ev2, hf⟩ := ob hf
    refine z_cVi (ci := 12) (T := TX12) (N := 32) (As := [.int l1]) (rest := [.ref v1]) (zm_X12_pl ev2).2 (zm_X12_pl ev2).1 (by decide) rfl (Or.inl rfl) mw_31_6 mw_31_7 mw_31_8 mw_1_5 mw_31_9 yk_X12_pl (by decide) (by decide) rfl (Nat.le_of_ble_eq_true rfl) rfl dX12_leaves_6 ?_
    refine z_iconst 2 2 dX12_leaves_9 (by decide) ?_
    refine z_iadd dX12_leaves_10 ?_
    refine z_iconst 1 1 dX12_leaves_11 (by decide) ?_
    refine z_sI hf dX12_leaves_12  (fun d3 hf => ?_)
    refine z_aload_n 0 dX12_leaves_13 rfl rfl ?_
    refine z_iload_n 1 dX12_leaves_14 rfl rfl ?_
    obtain ⟨v4, ev4, hf⟩ := ob hf
    refine z_cVv (ci := 12) (T := TX12) (N := 32) (As := [.int l1]) (rest := []) (zm_X12_losesPart ev4).2 (zm_X12_losesPart ev4).1 (by decide) rfl (Or.inl rfl) mw_33_11 mw_33_12 mw_33_13 mw_1_5 mw_33_14 yk_X12_losesPart (by decide) (by decide) rfl (Nat.le_of_ble_eq_true rfl) rfl dX12_leaves_15 ?_
    cases hf
    exact z_return hE rfl dX12_leaves_18
  · cases hf
set_option maxRecDepth 20000 in
theorem zb_X12_length_70 {N : Nat} {sh : Sh} {r : Int32 × Dt} {E : EV} (hE : TG E (some (.int r.1)) (sh, r.2))  {l0 : Nat} {l1 : Int32} {l2 : Int32} {l3 : Int32} {d : Dt} (hf : f_X12_length_70 N sh l0 l1 l2 l3 d = some r) : Z E yX12_length cX12_length 5 (some .int) 3 (sh, d) 70 [(0, .ref l0), (1, .int l1), (2, .int l2), (3, .int l3)] [] := by
  unfold f_X12_length_70 at hf
  refine z_iload_n 1 dX12_length_70 rfl rfl ?_
  refine z_tabc (v := 0) 41 112 hf dX12_length_71 (by decide) (by decide) rfl (by decide) (fun hf => ?_) (fun n13 hf => ?_)
  · refine z_aload_n 0 dX12_length_112 rfl rfl ?_
    refine z_aload_n 0 dX12_length_113 rfl rfl ?_
    refine z_gP (ci := 12) (k := 0) (C := RX12) (T := TX12) (N := 32) rfl inlX12 (by decide) mw_6_19 (fun _ _ _ _ h9 => h9) hf (by decide) rfl dX12_length_114  (fun v10 hf => ?_)
    refine z_iconst 4 4 dX12_length_117 (by decide) ?_
    refine z_aI hf dX12_length_118  (fun v11 hf => ?_)
    obtain ⟨v12, ev12, hf⟩ := ob hf
    refine z_cVi (ci := 12) (T := TX12) (N := 32) (As := [.int v11]) (rest := []) (zm_X12_says ev12).2 (zm_X12_says ev12).1 (by decide) rfl (Or.inl rfl) mw_12_4 mw_12_5 mw_12_6 mw_1_5 mw_12_7 yk_X12_says (by decide) (by decide) rfl (Nat.le_of_ble_eq_true rfl) rfl dX12_length_119 ?_
    cases hf
    exact z_ireturn hE rfl dX12_length_122
  refine z_tabc (v := 1) 52 123 hf dX12_length_71 (by decide) (by decide) rfl (by decide) (fun hf => ?_) (fun n15 hf => ?_)
  · refine z_aload_n 0 dX12_length_123 rfl rfl ?_
    refine z_iload_n 2 dX12_length_124 rfl rfl ?_
    obtain ⟨v14, ev14, hf⟩ := ob hf
    refine z_cVi (ci := 12) (T := TX12) (N := 32) (As := [.int l2]) (rest := []) (zm_X12_says ev14).2 (zm_X12_says ev14).1 (by decide) rfl (Or.inl rfl) mw_12_4 mw_12_5 mw_12_6 mw_1_5 mw_12_7 yk_X12_says (by decide) (by decide) rfl (Nat.le_of_ble_eq_true rfl) rfl dX12_length_125 ?_
    cases hf
    exact z_ireturn hE rfl dX12_length_128
  refine z_tabc (v := 2) 58 129 hf dX12_length_71 (by decide) (by decide) rfl (by decide) (fun hf => ?_) (fun n17 hf => ?_)
  · refine z_aload_n 0 dX12_length_129 rfl rfl ?_
    refine z_iload_n 3 dX12_length_130 rfl rfl ?_
    obtain ⟨v16, ev16, hf⟩ := ob hf
    refine z_cVi (ci := 12) (T := TX12) (N := 32) (As := [.int l3]) (rest := []) (zm_X12_says ev16).2 (zm_X12_says ev16).1 (by decide) rfl (Or.inl rfl) mw_12_4 mw_12_5 mw_12_6 mw_1_5 mw_12_7 yk_X12_says (by decide) (by decide) rfl (Nat.le_of_ble_eq_true rfl) rfl dX12_length_131 ?_
    cases hf
    exact z_ireturn hE rfl dX12_length_134
  refine z_tabc (v := 3) 64 135 hf dX12_length_71 (by decide) (by decide) rfl (by decide) (fun hf => ?_) (fun n21 hf => ?_)
  · refine z_aload_n 0 dX12_length_135 rfl rfl ?_
    refine z_aload_n 0 dX12_length_136 rfl rfl ?_
    refine z_gP (ci := 12) (k := 0) (C := RX12) (T := TX12) (N := 32) rfl inlX12 (by decide) mw_6_19 (fun _ _ _ _ h9 => h9) hf (by decide) rfl dX12_length_137  (fun v18 hf => ?_)
    refine z_bipush 6 6 dX12_length_140 (by decide) ?_
    refine z_aI hf dX12_length_142  (fun v19 hf => ?_)
    obtain ⟨v20, ev20, hf⟩ := ob hf
    refine z_cVi (ci := 12) (T := TX12) (N := 32) (As := [.int v19]) (rest := []) (zm_X12_says ev20).2 (zm_X12_says ev20).1 (by decide) rfl (Or.inl rfl) mw_12_4 mw_12_5 mw_12_6 mw_1_5 mw_12_7 yk_X12_says (by decide) (by decide) rfl (Nat.le_of_ble_eq_true rfl) rfl dX12_length_143 ?_
    cases hf
    exact z_ireturn hE rfl dX12_length_146
  refine z_tabc (v := 4) 76 147 hf dX12_length_71 (by decide) (by decide) rfl (by decide) (fun hf => ?_) (fun n25 hf => ?_)
  · refine z_aload_n 0 dX12_length_147 rfl rfl ?_
    refine z_aload_n 0 dX12_length_148 rfl rfl ?_
    refine z_gP (ci := 12) (k := 0) (C := RX12) (T := TX12) (N := 32) rfl inlX12 (by decide) mw_6_19 (fun _ _ _ _ h9 => h9) hf (by decide) rfl dX12_length_149  (fun v22 hf => ?_)
    refine z_bipush 7 7 dX12_length_152 (by decide) ?_
    refine z_aI hf dX12_length_154  (fun v23 hf => ?_)
    obtain ⟨v24, ev24, hf⟩ := ob hf
    refine z_cVi (ci := 12) (T := TX12) (N := 32) (As := [.int v23]) (rest := []) (zm_X12_says ev24).2 (zm_X12_says ev24).1 (by decide) rfl (Or.inl rfl) mw_12_4 mw_12_5 mw_12_6 mw_1_5 mw_12_7 yk_X12_says (by decide) (by decide) rfl (Nat.le_of_ble_eq_true rfl) rfl dX12_length_155 ?_
    cases hf
    exact z_ireturn hE rfl dX12_length_158
  refine z_tabc (v := 5) 88 159 hf dX12_length_71 (by decide) (by decide) rfl (by decide) (fun hf => ?_) (fun n29 hf => ?_)
  · refine z_aload_n 0 dX12_length_159 rfl rfl ?_
    refine z_aload_n 0 dX12_length_160 rfl rfl ?_
    refine z_gP (ci := 12) (k := 0) (C := RX12) (T := TX12) (N := 32) rfl inlX12 (by decide) mw_6_19 (fun _ _ _ _ h9 => h9) hf (by decide) rfl dX12_length_161  (fun v26 hf => ?_)
    refine z_bipush 8 8 dX12_length_164 (by decide) ?_
    refine z_aI hf dX12_length_166  (fun v27 hf => ?_)
    obtain ⟨v28, ev28, hf⟩ := ob hf
    refine z_cVi (ci := 12) (T := TX12) (N := 32) (As := [.int v27]) (rest := []) (zm_X12_says ev28).2 (zm_X12_says ev28).1 (by decide) rfl (Or.inl rfl) mw_12_4 mw_12_5 mw_12_6 mw_1_5 mw_12_7 yk_X12_says (by decide) (by decide) rfl (Nat.le_of_ble_eq_true rfl) rfl dX12_length_167 ?_
    cases hf
    exact z_ireturn hE rfl dX12_length_170
  refine z_tabc (v := 6) 100 171 hf dX12_length_71 (by decide) (by decide) rfl (by decide) (fun hf => ?_) (fun n33 hf => ?_)
  · refine z_aload_n 0 dX12_length_171 rfl rfl ?_
    refine z_aload_n 0 dX12_length_172 rfl rfl ?_
    refine z_gP (ci := 12) (k := 0) (C := RX12) (T := TX12) (N := 32) rfl inlX12 (by decide) mw_6_19 (fun _ _ _ _ h9 => h9) hf (by decide) rfl dX12_length_173  (fun v30 hf => ?_)
    refine z_iconst 5 5 dX12_length_176 (by decide) ?_
    refine z_aI hf dX12_length_177  (fun v31 hf => ?_)
    obtain ⟨v32, ev32, hf⟩ := ob hf
    refine z_cVi (ci := 12) (T := TX12) (N := 32) (As := [.int v31]) (rest := []) (zm_X12_says ev32).2 (zm_X12_says ev32).1 (by decide) rfl (Or.inl rfl) mw_12_4 mw_12_5 mw_12_6 mw_1_5 mw_12_7 yk_X12_says (by decide) (by decide) rfl (Nat.le_of_ble_eq_true rfl) rfl dX12_length_178 ?_
    cases hf
    exact z_ireturn hE rfl dX12_length_181
  refine z_tabd 182 dX12_length_71 (by have qn13 := tab_out 0 (by decide) n13; have qn15 := tab_out 1 (by decide) n15; have qn17 := tab_out 2 (by decide) n17; have qn21 := tab_out 3 (by decide) n21; have qn25 := tab_out 4 (by decide) n25; have qn29 := tab_out 5 (by decide) n29; have qn33 := tab_out 6 (by decide) n33; omega) (by decide) ?_
  refine z_aload_n 0 dX12_length_182 rfl rfl ?_
  refine z_bipush (-2) (-2) dX12_length_183 (by decide) ?_
  obtain ⟨v34, ev34, hf⟩ := ob hf
  refine z_cVi (ci := 12) (T := TX12) (N := 32) (As := [.int (-2 : Int32)]) (rest := []) (zm_X12_refuses ev34).2 (zm_X12_refuses ev34).1 (by decide) rfl (Or.inl rfl) mw_11_14 mw_11_15 mw_11_16 mw_1_5 mw_11_17 yk_X12_refuses (by decide) (by decide) rfl (Nat.le_of_ble_eq_true rfl) rfl dX12_length_185 ?_
  cases hf
  exact z_ireturn hE rfl dX12_length_188
set_option maxRecDepth 20000 in
theorem zg_X12_length_7 {N : Nat} {sh : Sh} {r : Int32 × Dt} {k7 : Nat → Int32 → Int32 → Int32 → Int32 → Dt → Option (Int32 × Dt)} {E : EV} (hE : TG E (some (.int r.1)) (sh, r.2))  (hk7 : ∀ (l0 : Nat) (l1 : Int32) (l2 : Int32) (l3 : Int32) (l4 : Int32) (d : Dt), k7 l0 l1 l2 l3 l4 d = some r → Z E yX12_length cX12_length 5 (some .int) 3 (sh, d) 7 [(0, .ref l0), (1, .int l1), (2, .int l2), (3, .int l3), (4, .int l4)] []) {l0 : Nat} {l1 : Int32} {l2 : Int32} {l3 : Int32} {l4 : Int32} {d : Dt} (hf : g_X12_length_7 N sh k7 l0 l1 l2 l3 l4 d = some r) : Z E yX12_length cX12_length 5 (some .int) 3 (sh, d) 7 [(0, .ref l0), (1, .int l1), (2, .int l2), (3, .int l3), (4, .int l4)] [] := by
  unfold g_X12_length_7 at hf
  refine z_iload 4 dX12_length_7 rfl ?_
  refine z_aload_n 0 dX12_length_9 rfl rfl ?_
  refine z_gP (ci := 12) (k := 0) (C := RX12) (T := TX12) (N := 32) rfl inlX12 (by decide) mw_6_19 (fun _ _ _ _ h9 => h9) hf (by decide) rfl dX12_length_10  (fun v1 hf => ?_)
  refine z_iconst 4 4 dX12_length_13 (by decide) ?_
  refine z_aI hf dX12_length_14  (fun v2 hf => ?_)
  refine z_icmp_ge 70 hf dX12_length_15 (by decide) (fun hf => ?_) (fun hf => ?_)
  · refine z_lv [(0, .ref l0), (1, .int l1), (2, .int l2), (3, .int l3)] [0, 1, 2, 3] rfl ?_
    exact zb_X12_length_70 hE hf
  · refine z_iload_n 2 dX12_length_18 rfl rfl ?_
    refine z_aload_n 0 dX12_length_19 rfl rfl ?_
    refine z_gP (ci := 12) (k := 0) (C := RX12) (T := TX12) (N := 32) rfl inlX12 (by decide) mw_6_19 (fun _ _ _ _ h9 => h9) hf (by decide) rfl dX12_length_20  (fun v3 hf => ?_)
    refine z_aload_n 0 dX12_length_23 rfl rfl ?_
    refine z_aload_n 0 dX12_length_24 rfl rfl ?_
    refine z_gP (ci := 12) (k := 0) (C := RX12) (T := TX12) (N := 32) rfl inlX12 (by decide) mw_6_19 (fun _ _ _ _ h9 => h9) hf (by decide) rfl dX12_length_25  (fun v4 hf => ?_)
    refine z_sipush 9642 9642 dX12_length_28 (by decide) ?_
    refine z_iconst 3 3 dX12_length_31 (by decide) ?_
    refine z_iload 4 dX12_length_32 rfl ?_
    refine z_imul dX12_length_34 ?_
    refine z_iadd dX12_length_35 ?_
    refine z_aI hf dX12_length_36  (fun v5 hf => ?_)
    obtain ⟨v6, ev6, hf⟩ := ob hf
    refine z_cVi (ci := 12) (T := TX12) (N := 32) (As := [.int v5]) (rest := [.ref v3, .int l2]) (zm_X12_st ev6).2 (zm_X12_st ev6).1 (by decide) rfl (Or.inl rfl) mw_13_10 mw_13_11 mw_13_12 mw_1_5 mw_13_13 yk_X12_st (by decide) (by decide) rfl (Nat.le_of_ble_eq_true rfl) rfl dX12_length_37 ?_
    refine z_bipush 6 6 dX12_length_40 (by decide) ?_
    refine z_iadd dX12_length_42 ?_
    refine z_aI hf dX12_length_43  (fun v7 hf => ?_)
    refine z_iadd dX12_length_44 ?_
    refine z_istore_n [(2, .int (l2 + v7)), (0, .ref l0), (1, .int l1), (3, .int l3), (4, .int l4)] dX12_length_45 rfl (by decide) rfl ?_
    refine z_iload_n 3 dX12_length_46 rfl rfl ?_
    refine z_aload_n 1 dX12_length_47 rfl rfl ?_
    refine z_gP (ci := 12) (k := 0) (C := RX12) (T := TX12) (N := 32) rfl inlX12 (by decide) mw_6_19 (fun _ _ _ _ h9 => h9) hf (by decide) rfl dX12_length_48  (fun v8 hf => ?_)
    refine z_sipush 9642 9642 dX12_length_51 (by decide) ?_
    refine z_iconst 3 3 dX12_length_54 (by decide) ?_
    refine z_iload 4 dX12_length_55 rfl ?_
    refine z_imul dX12_length_57 ?_
    refine z_iadd dX12_length_58 ?_
    refine z_iconst 2 2 dX12_length_59 (by decide) ?_
    refine z_iadd dX12_length_60 ?_
    refine z_aI hf dX12_length_61  (fun v9 hf => ?_)
    refine z_iadd dX12_length_62 ?_
    refine z_istore_n [(3, .int (l3 + v9)), (2, .int (l2 + v7)), (0, .ref l0), (1, .int l1), (4, .int l4)] dX12_length_63 rfl (by decide) rfl ?_
    refine z_iinc [(4, .int (l4 + 1)), (3, .int (l3 + v9)), (2, .int (l2 + v7)), (0, .ref l0), (1, .int l1)] 4 (l4 + 1) dX12_length_64 rfl rfl (by decide) rfl ?_
    refine z_goto 7 dX12_length_67 (by decide) ?_
    refine z_lv [(0, .ref l0), (1, .int l1), (2, .int (l2 + v7)), (3, .int (l3 + v9)), (4, .int (l4 + 1))] [3, 4, 2, 1, 0] rfl ?_
    exact hk7 _ _ _ _ _ _ hf
set_option maxRecDepth 20000 in
theorem zb_X12_length_7 {N : Nat} {sh : Sh} {r : Int32 × Dt} {E : EV} (hE : TG E (some (.int r.1)) (sh, r.2))  : ∀ (n : Nat) (l0 : Nat) (l1 : Int32) (l2 : Int32) (l3 : Int32) (l4 : Int32) (d : Dt), f_X12_length_7 N sh n l0 l1 l2 l3 l4 d = some r → Z E yX12_length cX12_length 5 (some .int) 3 (sh, d) 7 [(0, .ref l0), (1, .int l1), (2, .int l2), (3, .int l3), (4, .int l4)] [] := by
  intro n
  induction n with
  | zero => intro l0 l1 l2 l3 l4 d hf; cases hf
  | succ n ih => intro l0 l1 l2 l3 l4 d hf; exact zg_X12_length_7 hE ih hf
set_option maxRecDepth 20000 in
theorem zm_X12_length {N : Nat} {sh : Sh} {d : Dt} {l0 : Nat} {l1 : Int32} {r : Int32 × Dt} (hf : f_X12_length N sh l0 l1 d = some r) : isO sh l0 12 ∧ ∀ (l : Launch) (G : GG), Mt l G yX12_length cX12_length 5 (some .int) 3 [.ref l0, .int l1] (sh, d) (some (.int r.1)) (sh, r.2) := by
  have hf0 := hf
  unfold f_X12_length at hf
  refine ite_d hf (fun hO hf => ?_) (fun _ hf => ?_)
  · refine ⟨hO, fun l G => mt_of (Or.inl (by decide)) (Nat.le_of_ble_eq_true rfl) Le.rf (fun E hE => ?_)⟩
    show Z E yX12_length cX12_length 5 (some .int) 3 (sh, d) 0 [(0, .ref l0), (1, .int l1)] []
    refine z_iconst 0 0 dX12_length_0 (by decide) ?_
    refine z_istore_n [(2, .int (0 : Int32)), (0, .ref l0), (1, .int l1)] dX12_length_1 rfl (by decide) rfl ?_
    refine z_iconst 0 0 dX12_length_2 (by decide) ?_
    refine z_istore_n [(3, .int (0 : Int32)), (2, .int (0 : Int32)), (0, .ref l0), (1, .int l1)] dX12_length_3 rfl (by decide) rfl ?_
    refine z_iconst 0 0 dX12_length_4 (by decide) ?_
    refine z_istore [(4, .int (0 : Int32)), (3, .int (0 : Int32)), (2, .int (0 : Int32)), (0, .ref l0), (1, .int l1)] dX12_length_5 (by decide) rfl ?_
    refine z_lv [(0, .ref l0), (1, .int l1), (2, .int (0 : Int32)), (3, .int (0 : Int32)), (4, .int (0 : Int32))] [3, 4, 2, 1, 0] rfl ?_
    exact zb_X12_length_7 hE N _ _ _ _ _ _ hf
  · cases hf
set_option maxRecDepth 20000 in
theorem zm_X12_looks {N : Nat} {sh : Sh} {d : Dt} {l0 : Nat} {r : Int32} (hf : f_X12_looks N sh l0 d = some r) : isO sh l0 12 ∧ ∀ (l : Launch) (G : GG), Mt l G yX12_looks cX12_looks 1 (some .int) 1 [.ref l0] (sh, d) (some (.int r)) (sh, d) := by
  have hf0 := hf
  unfold f_X12_looks at hf
  refine ite_d hf (fun hO hf => ?_) (fun _ hf => ?_)
  · refine ⟨hO, fun l G => mt_of (Or.inl (by decide)) (Nat.le_of_ble_eq_true rfl) Le.rf (fun E hE => ?_)⟩
    show Z E yX12_looks cX12_looks 1 (some .int) 1 (sh, d) 0 [(0, .ref l0)] []
    refine z_aload_n 0 dX12_looks_0 rfl rfl ?_
    refine z_gI (ci := 12) (k := 5) (C := RX12) (T := TX12) (N := 32) rfl inlX12 (by decide) mw_55_13 (fun _ _ _ _ h9 => h9) hf (by decide) rfl dX12_looks_1  (fun v1 hf => ?_)
    cases hf
    exact z_ireturn hE rfl dX12_looks_4
  · cases hf
set_option maxRecDepth 20000 in
theorem zb_X12_lose_55 {N : Nat} {sh : Sh} {r : Int32 × Dt} {E : EV} (hE : TG E (some (.int r.1)) (sh, r.2))  {t0 : Nat} {t1 : Int32} {d : Dt} (hf : f_X12_lose_55 N sh t0 t1 d = some r) : Z E yX12_lose cX12_lose 3 (some .int) 3 (sh, d) 55 [] [.int t1, .ref t0] := by
  unfold f_X12_lose_55 at hf
  obtain ⟨v10, ev10, hf⟩ := ob hf
  refine z_cVi (ci := 12) (T := TX12) (N := 32) (As := [.int t1]) (rest := []) (zm_X12_says ev10).2 (zm_X12_says ev10).1 (by decide) rfl (Or.inl rfl) mw_12_4 mw_12_5 mw_12_6 mw_1_5 mw_12_7 yk_X12_says (by decide) (by decide) rfl (Nat.le_of_ble_eq_true rfl) rfl dX12_lose_55 ?_
  cases hf
  exact z_ireturn hE rfl dX12_lose_58
set_option maxRecDepth 20000 in
theorem zm_X12_lose {N : Nat} {sh : Sh} {d : Dt} {l0 : Nat} {l1 : Int32} {r : Int32 × Dt} (hf : f_X12_lose N sh l0 l1 d = some r) : isO sh l0 12 ∧ ∀ (l : Launch) (G : GG), Mt l G yX12_lose cX12_lose 3 (some .int) 3 [.ref l0, .int l1] (sh, d) (some (.int r.1)) (sh, r.2) := by
  have hf0 := hf
  unfold f_X12_lose at hf
  refine ite_d hf (fun hO hf => ?_) (fun _ hf => ?_)
  · refine ⟨hO, fun l G => mt_of (Or.inl (by decide)) (Nat.le_of_ble_eq_true rfl) Le.rf (fun E hE => ?_)⟩
    show Z E yX12_lose cX12_lose 3 (some .int) 3 (sh, d) 0 [(0, .ref l0), (1, .int l1)] []
    refine z_aload_n 0 dX12_lose_0 rfl rfl ?_
    refine z_iload_n 1 dX12_lose_1 rfl rfl ?_
    obtain ⟨v1, ev1, hf⟩ := ob hf
    refine z_cVi (ci := 12) (T := TX12) (N := 32) (As := [.int l1]) (rest := []) (zm_X12_isGauge ev1).2 (zm_X12_isGauge ev1).1 (by decide) rfl (Or.inl rfl) mw_21_9 mw_21_10 mw_21_11 mw_1_5 mw_21_12 yk_X12_isGauge (by decide) (by decide) rfl (Nat.le_of_ble_eq_true rfl) rfl dX12_lose_2 ?_
    refine z_if_ne 15 hf dX12_lose_5 (by decide) (fun hf => ?_) (fun hf => ?_)
    · refine z_aload_n 0 dX12_lose_15 rfl rfl ?_
      obtain ⟨v2, ev2, hf⟩ := ob hf
      refine z_cVv (ci := 12) (T := TX12) (N := 32) (As := []) (rest := []) (zm_X12_keeps ev2).2 (zm_X12_keeps ev2).1 (by decide) rfl (Or.inl rfl) mw_11_23 mw_12_0 mw_12_1 mw_1_5 mw_12_2 yk_X12_keeps (by decide) (by decide) rfl (Nat.le_of_ble_eq_true rfl) rfl dX12_lose_16 ?_
      refine z_aload_n 0 dX12_lose_19 rfl rfl ?_
      refine z_gP (ci := 12) (k := 0) (C := RX12) (T := TX12) (N := 32) rfl inlX12 (by decide) mw_6_19 (fun _ _ _ _ h9 => h9) hf (by decide) rfl dX12_lose_20  (fun v3 hf => ?_)
      refine z_aload_n 0 dX12_lose_23 rfl rfl ?_
      refine z_iload_n 1 dX12_lose_24 rfl rfl ?_
      obtain ⟨v4, ev4, hf⟩ := ob hf
      refine z_cVi (ci := 12) (T := TX12) (N := 32) (As := [.int l1]) (rest := [.ref v3]) (zm_X12_ga ev4).2 (zm_X12_ga ev4).1 (by decide) rfl (Or.inl rfl) mw_20_8 mw_20_9 mw_20_10 mw_1_5 mw_20_11 yk_X12_ga (by decide) (by decide) rfl (Nat.le_of_ble_eq_true rfl) rfl dX12_lose_25 ?_
      refine z_iconst 2 2 dX12_lose_28 (by decide) ?_
      refine z_iadd dX12_lose_29 ?_
      refine z_aI hf dX12_lose_30  (fun v5 hf => ?_)
      refine z_istore_n [(2, .int v5), (0, .ref l0), (1, .int l1)] dX12_lose_31 rfl (by decide) rfl ?_
      refine z_aload_n 1 dX12_lose_32 rfl rfl ?_
      refine z_gP (ci := 12) (k := 0) (C := RX12) (T := TX12) (N := 32) rfl inlX12 (by decide) mw_6_19 (fun _ _ _ _ h9 => h9) hf (by decide) rfl dX12_lose_33  (fun v6 hf => ?_)
      refine z_aload_n 1 dX12_lose_36 rfl rfl ?_
      refine z_iload_n 2 dX12_lose_37 rfl rfl ?_
      obtain ⟨v7, ev7, hf⟩ := ob hf
      refine z_cVi (ci := 12) (T := TX12) (N := 32) (As := [.int l1]) (rest := [.ref v6]) (zm_X12_ga ev7).2 (zm_X12_ga ev7).1 (by decide) rfl (Or.inl rfl) mw_20_8 mw_20_9 mw_20_10 mw_1_5 mw_20_11 yk_X12_ga (by decide) (by decide) rfl (Nat.le_of_ble_eq_true rfl) rfl dX12_lose_38 ?_
      refine z_iconst 2 2 dX12_lose_41 (by decide) ?_
      refine z_iadd dX12_lose_42 ?_
      refine z_iconst (-1) (-1) dX12_lose_43 (by decide) ?_
      refine z_sI hf dX12_lose_44  (fun d8 hf => ?_)
      refine z_aload_n 1 dX12_lose_45 rfl rfl ?_
      refine z_iload_n 0 dX12_lose_46 rfl rfl ?_
      refine z_if_ge 54 hf dX12_lose_47 (by decide) (fun hf => ?_) (fun hf => ?_)
      · refine z_iconst 1 1 dX12_lose_54 (by decide) ?_
        refine z_lv [] [] rfl ?_
        exact zb_X12_lose_55 hE hf
      · refine z_iconst 0 0 dX12_lose_50 (by decide) ?_
        refine z_goto 55 dX12_lose_51 (by decide) ?_
        refine z_lv [] [] rfl ?_
        exact zb_X12_lose_55 hE hf
    · refine z_aload_n 0 dX12_lose_8 rfl rfl ?_
      refine z_bipush (-2) (-2) dX12_lose_9 (by decide) ?_
      obtain ⟨v9, ev9, hf⟩ := ob hf
      refine z_cVi (ci := 12) (T := TX12) (N := 32) (As := [.int (-2 : Int32)]) (rest := []) (zm_X12_refuses ev9).2 (zm_X12_refuses ev9).1 (by decide) rfl (Or.inl rfl) mw_11_14 mw_11_15 mw_11_16 mw_1_5 mw_11_17 yk_X12_refuses (by decide) (by decide) rfl (Nat.le_of_ble_eq_true rfl) rfl dX12_lose_11 ?_
      cases hf
      exact z_ireturn hE rfl dX12_lose_14
  · cases hf
set_option maxRecDepth 20000 in
theorem zb_X12_thins_35 {N : Nat} {sh : Sh} {r : Dt} {E : EV} (hE : TG E none (sh, r))  {t0 : Nat} {t1 : Int32} {t2 : Int32} {d : Dt} (hf : f_X12_thins_35 N sh t0 t1 t2 d = some r) : Z E yX12_thins cX12_thins 4 none 2 (sh, d) 35 [] [.int t2, .int t1, .ref t0] := by
  unfold f_X12_thins_35 at hf
  refine z_sI hf dX12_thins_35  (fun d6 hf => ?_)
  cases hf
  exact z_return hE rfl dX12_thins_36
set_option maxRecDepth 20000 in
theorem zm_X12_thins {N : Nat} {sh : Sh} {d : Dt} {l0 : Nat} {l1 : Int32} {l2 : Int32} {r : Dt} (hf : f_X12_thins N sh l0 l1 l2 d = some r) : isO sh l0 12 ∧ ∀ (l : Launch) (G : GG), Mt l G yX12_thins cX12_thins 4 none 2 [.ref l0, .int l1, .int l2] (sh, d) none (sh, r) := by
  have hf0 := hf
  unfold f_X12_thins at hf
  refine ite_d hf (fun hO hf => ?_) (fun _ hf => ?_)
  · refine ⟨hO, fun l G => mt_of (Or.inl (by decide)) (Nat.le_of_ble_eq_true rfl) Le.rf (fun E hE => ?_)⟩
    show Z E yX12_thins cX12_thins 4 none 2 (sh, d) 0 [(0, .ref l0), (1, .int l1), (2, .int l2)] []
    refine z_aload_n 0 dX12_thins_0 rfl rfl ?_
    refine z_gP (ci := 12) (k := 0) (C := RX12) (T := TX12) (N := 32) rfl inlX12 (by decide) mw_6_19 (fun _ _ _ _ h9 => h9) hf (by decide) rfl dX12_thins_1  (fun v1 hf => ?_)
    refine z_aload_n 0 dX12_thins_4 rfl rfl ?_
    refine z_iload_n 1 dX12_thins_5 rfl rfl ?_
    obtain ⟨v2, ev2, hf⟩ := ob hf
    refine z_cVi (ci := 12) (T := TX12) (N := 32) (As := [.int l1]) (rest := [.ref v1]) (zm_X12_st ev2).2 (zm_X12_st ev2).1 (by decide) rfl (Or.inl rfl) mw_13_10 mw_13_11 mw_13_12 mw_1_5 mw_13_13 yk_X12_st (by decide) (by decide) rfl (Nat.le_of_ble_eq_true rfl) rfl dX12_thins_6 ?_
    refine z_iconst 0 0 dX12_thins_9 (by decide) ?_
    refine z_iadd dX12_thins_10 ?_
    refine z_aI hf dX12_thins_11  (fun v3 hf => ?_)
    refine z_iload_n 2 dX12_thins_12 rfl rfl ?_
    refine z_isub dX12_thins_13 ?_
    refine z_istore_n [(3, .int (v3 - l2)), (0, .ref l0), (1, .int l1), (2, .int l2)] dX12_thins_14 rfl (by decide) rfl ?_
    refine z_aload_n 1 dX12_thins_15 rfl rfl ?_
    refine z_gP (ci := 12) (k := 0) (C := RX12) (T := TX12) (N := 32) rfl inlX12 (by decide) mw_6_19 (fun _ _ _ _ h9 => h9) hf (by decide) rfl dX12_thins_16  (fun v4 hf => ?_)
    refine z_aload_n 1 dX12_thins_19 rfl rfl ?_
    refine z_iload_n 2 dX12_thins_20 rfl rfl ?_
    obtain ⟨v5, ev5, hf⟩ := ob hf
    refine z_cVi (ci := 12) (T := TX12) (N := 32) (As := [.int l1]) (rest := [.ref v4]) (zm_X12_st ev5).2 (zm_X12_st ev5).1 (by decide) rfl (Or.inl rfl) mw_13_10 mw_13_11 mw_13_12 mw_1_5 mw_13_13 yk_X12_st (by decide) (by decide) rfl (Nat.le_of_ble_eq_true rfl) rfl dX12_thins_21 ?_
    refine z_iconst 0 0 dX12_thins_24 (by decide) ?_
    refine z_iadd dX12_thins_25 ?_
    refine z_iload_n 0 dX12_thins_26 rfl rfl ?_
    refine z_if_ge 34 hf dX12_thins_27 (by decide) (fun hf => ?_) (fun hf => ?_)
    · refine z_iload_n 0 dX12_thins_34 rfl rfl ?_
      refine z_lv [] [] rfl ?_
      exact zb_X12_thins_35 hE hf
    · refine z_iconst 0 0 dX12_thins_30 (by decide) ?_
      refine z_goto 35 dX12_thins_31 (by decide) ?_
      refine z_lv [] [] rfl ?_
      exact zb_X12_thins_35 hE hf
  · cases hf
set_option maxRecDepth 20000 in
theorem zb_X12_melt_8 {N : Nat} {sh : Sh} {r : Int32 × Dt} {E : EV} (hE : TG E (some (.int r.1)) (sh, r.2))  {l0 : Nat} {d : Dt} (hf : f_X12_melt_8 N sh l0 d = some r) : Z E yX12_melt cX12_melt 7 (some .int) 3 (sh, d) 8 [(0, .ref l0)] [] := by
  unfold f_X12_melt_8 at hf
  refine z_aload_n 0 dX12_melt_8 rfl rfl ?_
  refine z_bipush (-2) (-2) dX12_melt_9 (by decide) ?_
  obtain ⟨v9, ev9, hf⟩ := ob hf
  refine z_cVi (ci := 12) (T := TX12) (N := 32) (As := [.int (-2 : Int32)]) (rest := []) (zm_X12_refuses ev9).2 (zm_X12_refuses ev9).1 (by decide) rfl (Or.inl rfl) mw_11_14 mw_11_15 mw_11_16 mw_1_5 mw_11_17 yk_X12_refuses (by decide) (by decide) rfl (Nat.le_of_ble_eq_true rfl) rfl dX12_melt_11 ?_
  cases hf
  exact z_ireturn hE rfl dX12_melt_14
set_option maxRecDepth 20000 in
theorem zb_X12_melt_88 {N : Nat} {sh : Sh} {r : Int32 × Dt} {E : EV} (hE : TG E (some (.int r.1)) (sh, r.2))  {l0 : Nat} {l5 : Int32} {d : Dt} (hf : f_X12_melt_88 N sh l0 l5 d = some r) : Z E yX12_melt cX12_melt 7 (some .int) 3 (sh, d) 88 [(0, .ref l0), (5, .int l5)] [] := by
  unfold f_X12_melt_88 at hf
  refine z_aload_n 0 dX12_melt_88 rfl rfl ?_
  refine z_iload 1 dX12_melt_89 rfl ?_
  obtain ⟨v13, ev13, hf⟩ := ob hf
  refine z_cVi (ci := 12) (T := TX12) (N := 32) (As := [.int l5]) (rest := []) (zm_X12_says ev13).2 (zm_X12_says ev13).1 (by decide) rfl (Or.inl rfl) mw_12_4 mw_12_5 mw_12_6 mw_1_5 mw_12_7 yk_X12_says (by decide) (by decide) rfl (Nat.le_of_ble_eq_true rfl) rfl dX12_melt_91 ?_
  cases hf
  exact z_ireturn hE rfl dX12_melt_94
set_option maxRecDepth 20000 in
theorem zg_X12_melt_61 {N : Nat} {sh : Sh} {r : Int32 × Dt} {k61 : Nat → Int32 → Int32 → Dt → Option (Int32 × Dt)} {E : EV} (hE : TG E (some (.int r.1)) (sh, r.2))  (hk61 : ∀ (l0 : Nat) (l5 : Int32) (l6 : Int32) (d : Dt), k61 l0 l5 l6 d = some r → Z E yX12_melt cX12_melt 7 (some .int) 3 (sh, d) 61 [(0, .ref l0), (5, .int l5), (6, .int l6)] []) {l0 : Nat} {l5 : Int32} {l6 : Int32} {d : Dt} (hf : g_X12_melt_61 N sh k61 l0 l5 l6 d = some r) : Z E yX12_melt cX12_melt 7 (some .int) 3 (sh, d) 61 [(0, .ref l0), (5, .int l5), (6, .int l6)] [] := by
  unfold g_X12_melt_61 at hf
  refine z_iload 2 dX12_melt_61 rfl ?_
  refine z_aload_n 0 dX12_melt_63 rfl rfl ?_
  refine z_gP (ci := 12) (k := 0) (C := RX12) (T := TX12) (N := 32) rfl inlX12 (by decide) mw_6_19 (fun _ _ _ _ h9 => h9) hf (by decide) rfl dX12_melt_64  (fun v10 hf => ?_)
  refine z_iconst 1 1 dX12_melt_67 (by decide) ?_
  refine z_aI hf dX12_melt_68  (fun v11 hf => ?_)
  refine z_icmp_ge 88 hf dX12_melt_69 (by decide) (fun hf => ?_) (fun hf => ?_)
  · refine z_lv [(0, .ref l0), (5, .int l5)] [0, 1] rfl ?_
    exact zb_X12_melt_88 hE hf
  · refine z_aload_n 0 dX12_melt_72 rfl rfl ?_
    refine z_iload 2 dX12_melt_73 rfl ?_
    refine z_iconst 3 3 dX12_melt_75 (by decide) ?_
    refine z_iload 1 dX12_melt_76 rfl ?_
    refine z_imul dX12_melt_78 ?_
    obtain ⟨v12, ev12, hf⟩ := ob hf
    refine z_cVv (ci := 12) (T := TX12) (N := 32) (As := [.int l6, .int ((3 : Int32) * l5)]) (rest := []) (zm_X12_thins ev12).2 (zm_X12_thins ev12).1 (by decide) rfl (Or.inl rfl) mw_29_8 mw_29_9 mw_29_10 mw_1_5 mw_29_11 yk_X12_thins (by decide) (by decide) rfl (Nat.le_of_ble_eq_true rfl) rfl dX12_melt_79 ?_
    refine z_iinc [(6, .int (l6 + 1)), (0, .ref l0), (5, .int l5)] 2 (l6 + 1) dX12_melt_82 rfl rfl (by decide) rfl ?_
    refine z_goto 61 dX12_melt_85 (by decide) ?_
    refine z_lv [(0, .ref l0), (5, .int l5), (6, .int (l6 + 1))] [1, 2, 0] rfl ?_
    exact hk61 _ _ _ _ hf
set_option maxRecDepth 20000 in
theorem zb_X12_melt_61 {N : Nat} {sh : Sh} {r : Int32 × Dt} {E : EV} (hE : TG E (some (.int r.1)) (sh, r.2))  : ∀ (n : Nat) (l0 : Nat) (l5 : Int32) (l6 : Int32) (d : Dt), f_X12_melt_61 N sh n l0 l5 l6 d = some r → Z E yX12_melt cX12_melt 7 (some .int) 3 (sh, d) 61 [(0, .ref l0), (5, .int l5), (6, .int l6)] [] := by
  intro n
  induction n with
  | zero => intro l0 l5 l6 d hf; cases hf
  | succ n ih => intro l0 l5 l6 d hf; exact zg_X12_melt_61 hE ih hf
set_option maxRecDepth 20000 in
theorem zm_X12_melt {N : Nat} {sh : Sh} {d : Dt} {l0 : Nat} {l1 : Int32} {l2 : Int32} {r : Int32 × Dt} (hf : f_X12_melt N sh l0 l1 l2 d = some r) : isO sh l0 12 ∧ ∀ (l : Launch) (G : GG), Mt l G yX12_melt cX12_melt 7 (some .int) 3 [.ref l0, .int l1, .int l2] (sh, d) (some (.int r.1)) (sh, r.2) := by
  have hf0 := hf
  unfold f_X12_melt at hf
  refine ite_d hf (fun hO hf => ?_) (fun _ hf => ?_)
  · refine ⟨hO, fun l G => mt_of (Or.inl (by decide)) (Nat.le_of_ble_eq_true rfl) Le.rf (fun E hE => ?_)⟩
    show Z E yX12_melt cX12_melt 7 (some .int) 3 (sh, d) 0 [(0, .ref l0), (1, .int l1), (2, .int l2)] []
    refine z_iload_n 1 dX12_melt_0 rfl rfl ?_
    refine z_if_lt 8 hf dX12_melt_1 (by decide) (fun hf => ?_) (fun hf => ?_)
    · refine z_lv [(0, .ref l0)] [0] rfl ?_
      exact zb_X12_melt_8 hE hf
    · refine z_iload_n 2 dX12_melt_4 rfl rfl ?_
      refine z_if_ge 15 hf dX12_melt_5 (by decide) (fun hf => ?_) (fun hf => ?_)
      · refine z_iload_n 2 dX12_melt_15 rfl rfl ?_
        refine z_if_ne 26 hf dX12_melt_16 (by decide) (fun hf => ?_) (fun hf => ?_)
        · refine z_aload_n 0 dX12_melt_26 rfl rfl ?_
          obtain ⟨v1, ev1, hf⟩ := ob hf
          refine z_cVv (ci := 12) (T := TX12) (N := 32) (As := []) (rest := []) (zm_X12_keeps ev1).2 (zm_X12_keeps ev1).1 (by decide) rfl (Or.inl rfl) mw_11_23 mw_12_0 mw_12_1 mw_1_5 mw_12_2 yk_X12_keeps (by decide) (by decide) rfl (Nat.le_of_ble_eq_true rfl) rfl dX12_melt_27 ?_
          refine z_iload_n 1 dX12_melt_30 rfl rfl ?_
          refine z_i2f dX12_melt_31 ?_
          refine z_ldcf mw_25_5 dX12_melt_32 ?_
          refine z_fdiv hf dX12_melt_34  (fun v2 hf => ?_)
          refine z_fstore_n [(3, .float v2), (0, .ref l0), (1, .int l1), (2, .int l2)] dX12_melt_35 rfl (by decide) rfl ?_
          refine z_iload_n 3 dX12_melt_36 rfl rfl ?_
          refine z_i2f dX12_melt_37 ?_
          refine z_ldcf mw_25_5 dX12_melt_38 ?_
          refine z_fdiv hf dX12_melt_40  (fun v3 hf => ?_)
          refine z_fstore [(4, .float v3), (3, .float v2), (0, .ref l0), (1, .int l1), (2, .int l2)] dX12_melt_41 (by decide) rfl ?_
          refine z_aload_n 2 dX12_melt_43 rfl rfl ?_
          refine z_fload_n 1 dX12_melt_44 rfl rfl ?_
          refine z_fload_n 1 dX12_melt_45 rfl rfl ?_
          refine z_fload 0 dX12_melt_46 rfl ?_
          refine z_frem hf dX12_melt_48  (fun v4 hf => ?_)
          refine z_fsub hf dX12_melt_49  (fun v5 hf => ?_)
          refine z_fload 0 dX12_melt_50 rfl ?_
          refine z_fdiv hf dX12_melt_52  (fun v6 hf => ?_)
          obtain ⟨v7, ev7, hf⟩ := ob hf
          refine z_cVi (ci := 12) (T := TX12) (N := 32) (As := [.float v6]) (rest := []) (zm_X12_whole ev7).2 (zm_X12_whole ev7).1 (by decide) rfl (Or.inl rfl) mw_25_6 mw_25_7 mw_25_8 mw_1_5 mw_25_9 yk_X12_whole (by decide) (by decide) rfl (Nat.le_of_ble_eq_true rfl) rfl dX12_melt_53 ?_
          refine z_istore [(5, .int v7), (4, .float v3), (3, .float v2), (0, .ref l0), (1, .int l1), (2, .int l2)] dX12_melt_56 (by decide) rfl ?_
          refine z_iconst 0 0 dX12_melt_58 (by decide) ?_
          refine z_istore [(6, .int (0 : Int32)), (5, .int v7), (4, .float v3), (3, .float v2), (0, .ref l0), (1, .int l1), (2, .int l2)] dX12_melt_59 (by decide) rfl ?_
          refine z_lv [(0, .ref l0), (5, .int v7), (6, .int (0 : Int32))] [4, 1, 0] rfl ?_
          exact zb_X12_melt_61 hE N _ _ _ _ hf
        · refine z_aload_n 0 dX12_melt_19 rfl rfl ?_
          refine z_bipush (-8) (-8) dX12_melt_20 (by decide) ?_
          obtain ⟨v8, ev8, hf⟩ := ob hf
          refine z_cVi (ci := 12) (T := TX12) (N := 32) (As := [.int (-8 : Int32)]) (rest := []) (zm_X12_refuses ev8).2 (zm_X12_refuses ev8).1 (by decide) rfl (Or.inl rfl) mw_11_14 mw_11_15 mw_11_16 mw_1_5 mw_11_17 yk_X12_refuses (by decide) (by decide) rfl (Nat.le_of_ble_eq_true rfl) rfl dX12_melt_22 ?_
          cases hf
          exact z_ireturn hE rfl dX12_melt_25
      · refine z_lv [(0, .ref l0)] [0] rfl ?_
        exact zb_X12_melt_8 hE hf
  · cases hf
set_option maxRecDepth 20000 in
theorem zb_X12_minutes_90 {N : Nat} {sh : Sh} {r : Int32 × Dt} {E : EV} (hE : TG E (some (.int r.1)) (sh, r.2))  {t0 : Int32} {d : Dt} (hf : f_X12_minutes_90 N sh t0 d = some r) : Z E yX12_minutes cX12_minutes 5 (some .int) 6 (sh, d) 90 [] [.int t0] := by
  unfold f_X12_minutes_90 at hf
  cases hf
  exact z_ireturn hE rfl dX12_minutes_90
set_option maxRecDepth 20000 in
theorem zm_X12_minutes {N : Nat} {sh : Sh} {d : Dt} {l0 : Nat} {l1 : Int32} {l2 : Int32} {r : Int32 × Dt} (hf : f_X12_minutes N sh l0 l1 l2 d = some r) : isO sh l0 12 ∧ ∀ (l : Launch) (G : GG), Mt l G yX12_minutes cX12_minutes 5 (some .int) 6 [.ref l0, .int l1, .int l2] (sh, d) (some (.int r.1)) (sh, r.2) := by
  have hf0 := hf
  unfold f_X12_minutes at hf
  refine ite_d hf (fun hO hf => ?_) (fun _ hf => ?_)
  · refine ⟨hO, fun l G => mt_of (Or.inl (by decide)) (Nat.le_of_ble_eq_true rfl) Le.rf (fun E hE => ?_)⟩
    show Z E yX12_minutes cX12_minutes 5 (some .int) 6 (sh, d) 0 [(0, .ref l0), (1, .int l1), (2, .int l2)] []
    refine z_aload_n 0 dX12_minutes_0 rfl rfl ?_
    refine z_aload_n 0 dX12_minutes_1 rfl rfl ?_
    refine z_gP (ci := 12) (k := 0) (C := RX12) (T := TX12) (N := 32) rfl inlX12 (by decide) mw_6_19 (fun _ _ _ _ h9 => h9) hf (by decide) rfl dX12_minutes_2  (fun v1 hf => ?_)
    refine z_sipush 9642 9642 dX12_minutes_5 (by decide) ?_
    refine z_iconst 3 3 dX12_minutes_8 (by decide) ?_
    refine z_iload_n 2 dX12_minutes_9 rfl rfl ?_
    refine z_imul dX12_minutes_10 ?_
    refine z_iadd dX12_minutes_11 ?_
    refine z_aI hf dX12_minutes_12  (fun v2 hf => ?_)
    obtain ⟨v3, ev3, hf⟩ := ob hf
    refine z_cVi (ci := 12) (T := TX12) (N := 32) (As := [.int v2]) (rest := []) (zm_X12_st ev3).2 (zm_X12_st ev3).1 (by decide) rfl (Or.inl rfl) mw_13_10 mw_13_11 mw_13_12 mw_1_5 mw_13_13 yk_X12_st (by decide) (by decide) rfl (Nat.le_of_ble_eq_true rfl) rfl dX12_minutes_13 ?_
    refine z_istore_n [(3, .int v3), (0, .ref l0), (1, .int l1), (2, .int l2)] dX12_minutes_16 rfl (by decide) rfl ?_
    refine z_aload_n 1 dX12_minutes_17 rfl rfl ?_
    refine z_gP (ci := 12) (k := 0) (C := RX12) (T := TX12) (N := 32) rfl inlX12 (by decide) mw_6_19 (fun _ _ _ _ h9 => h9) hf (by decide) rfl dX12_minutes_18  (fun v4 hf => ?_)
    refine z_sipush 9642 9642 dX12_minutes_21 (by decide) ?_
    refine z_iconst 3 3 dX12_minutes_24 (by decide) ?_
    refine z_iload_n 3 dX12_minutes_25 rfl rfl ?_
    refine z_imul dX12_minutes_26 ?_
    refine z_iadd dX12_minutes_27 ?_
    refine z_iconst 2 2 dX12_minutes_28 (by decide) ?_
    refine z_iadd dX12_minutes_29 ?_
    refine z_aI hf dX12_minutes_30  (fun v5 hf => ?_)
    refine z_if_ne 49 hf dX12_minutes_31 (by decide) (fun hf => ?_) (fun hf => ?_)
    · refine z_aload_n 1 dX12_minutes_49 rfl rfl ?_
      refine z_iload_n 2 dX12_minutes_50 rfl rfl ?_
      refine z_aload_n 1 dX12_minutes_51 rfl rfl ?_
      refine z_gP (ci := 12) (k := 0) (C := RX12) (T := TX12) (N := 32) rfl inlX12 (by decide) mw_6_19 (fun _ _ _ _ h9 => h9) hf (by decide) rfl dX12_minutes_52  (fun v6 hf => ?_)
      refine z_iload_n 0 dX12_minutes_55 rfl rfl ?_
      refine z_iconst 0 0 dX12_minutes_56 (by decide) ?_
      refine z_iadd dX12_minutes_57 ?_
      refine z_aI hf dX12_minutes_58  (fun v7 hf => ?_)
      obtain ⟨v8, ev8, hf⟩ := ob hf
      refine z_cVi (ci := 12) (T := TX12) (N := 32) (As := [.int l1, .int v7]) (rest := []) (zm_X12_passes ev8).2 (zm_X12_passes ev8).1 (by decide) rfl (Or.inl rfl) mw_38_16 mw_38_17 mw_38_18 mw_1_5 mw_38_19 yk_X12_passes (by decide) (by decide) rfl (Nat.le_of_ble_eq_true rfl) rfl dX12_minutes_59 ?_
      refine z_istore [(4, .int v8.1), (3, .int v3), (0, .ref l0), (1, .int l1), (2, .int l2)] dX12_minutes_62 (by decide) rfl ?_
      refine z_iload 0 dX12_minutes_64 rfl ?_
      refine z_if_ne 73 hf dX12_minutes_66 (by decide) (fun hf => ?_) (fun hf => ?_)
      · refine z_iload 0 dX12_minutes_73 rfl ?_
        refine z_aload_n 2 dX12_minutes_75 rfl rfl ?_
        refine z_iload_n 3 dX12_minutes_76 rfl rfl ?_
        refine z_aload_n 2 dX12_minutes_77 rfl rfl ?_
        refine z_gP (ci := 12) (k := 0) (C := RX12) (T := TX12) (N := 32) rfl inlX12 (by decide) mw_6_19 (fun _ _ _ _ h9 => h9) hf (by decide) rfl dX12_minutes_78  (fun v9 hf => ?_)
        refine z_iload_n 1 dX12_minutes_81 rfl rfl ?_
        refine z_bipush 6 6 dX12_minutes_82 (by decide) ?_
        refine z_iadd dX12_minutes_84 ?_
        refine z_aI hf dX12_minutes_85  (fun v10 hf => ?_)
        obtain ⟨v11, ev11, hf⟩ := ob hf
        refine z_cVi (ci := 12) (T := TX12) (N := 32) (As := [.int l1, .int v10]) (rest := [.int v8.1]) (zm_X12_takes ev11).2 (zm_X12_takes ev11).1 (by decide) rfl (Or.inl rfl) mw_38_7 mw_38_8 mw_38_9 mw_1_5 mw_38_10 yk_X12_takes (by decide) (by decide) rfl (Nat.le_of_ble_eq_true rfl) rfl dX12_minutes_86 ?_
        refine z_imul dX12_minutes_89 ?_
        refine z_lv [] [] rfl ?_
        exact zb_X12_minutes_90 hE hf
      · refine z_iconst (-1) (-1) dX12_minutes_69 (by decide) ?_
        refine z_goto 90 dX12_minutes_70 (by decide) ?_
        refine z_lv [] [] rfl ?_
        exact zb_X12_minutes_90 hE hf
    · refine z_aload_n 1 dX12_minutes_34 rfl rfl ?_
      refine z_iload_n 2 dX12_minutes_35 rfl rfl ?_
      refine z_aload_n 1 dX12_minutes_36 rfl rfl ?_
      refine z_gP (ci := 12) (k := 0) (C := RX12) (T := TX12) (N := 32) rfl inlX12 (by decide) mw_6_19 (fun _ _ _ _ h9 => h9) hf (by decide) rfl dX12_minutes_37  (fun v12 hf => ?_)
      refine z_iload_n 0 dX12_minutes_40 rfl rfl ?_
      refine z_bipush 6 6 dX12_minutes_41 (by decide) ?_
      refine z_iadd dX12_minutes_43 ?_
      refine z_aI hf dX12_minutes_44  (fun v13 hf => ?_)
      obtain ⟨v14, ev14, hf⟩ := ob hf
      refine z_cVi (ci := 12) (T := TX12) (N := 32) (As := [.int l1, .int v13]) (rest := []) (zm_X12_takes ev14).2 (zm_X12_takes ev14).1 (by decide) rfl (Or.inl rfl) mw_38_7 mw_38_8 mw_38_9 mw_1_5 mw_38_10 yk_X12_takes (by decide) (by decide) rfl (Nat.le_of_ble_eq_true rfl) rfl dX12_minutes_45 ?_
      cases hf
      exact z_ireturn hE rfl dX12_minutes_48
  · cases hf
