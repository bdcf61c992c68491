set_option maxRecDepth 20000 in
theorem zb_X12_drivesEmpty_34 {N : Nat} {sh : Sh} {r : Int32 × Dt} {E : EV} (hE : TG E (some (.int r.1)) (sh, r.2))  {l3 : Int32} {d : Dt} (hf : f_X12_drivesEmpty_34 N sh l3 d = some r) : Z E yX12_drivesEmpty cX12_drivesEmpty 5 (some .int) 4 (sh, d) 34 [(3, .int l3)] [] := by
  unfold f_X12_drivesEmpty_34 at hf
  refine z_iload_n 0 dX12_drivesEmpty_34 rfl rfl ?_
  cases hf
  exact z_ireturn hE rfl dX12_drivesEmpty_35
set_option maxRecDepth 20000 in
theorem zg_X12_drivesEmpty_2 {N : Nat} {sh : Sh} {r : Int32 × Dt} {k2 : Nat → Int32 → Int32 → Dt → Option (Int32 × Dt)} {E : EV} (hE : TG E (some (.int r.1)) (sh, r.2))  (hk2 : ∀ (l0 : Nat) (l2 : Int32) (l3 : Int32) (d : Dt), k2 l0 l2 l3 d = some r → Z E yX12_drivesEmpty cX12_drivesEmpty 5 (some .int) 4 (sh, d) 2 [(0, .ref l0), (2, .int l2), (3, .int l3)] []) {l0 : Nat} {l2 : Int32} {l3 : Int32} {d : Dt} (hf : g_X12_drivesEmpty_2 N sh k2 l0 l2 l3 d = some r) : Z E yX12_drivesEmpty cX12_drivesEmpty 5 (some .int) 4 (sh, d) 2 [(0, .ref l0), (2, .int l2), (3, .int l3)] [] := by
  unfold g_X12_drivesEmpty_2 at hf
  refine z_iload_n 2 dX12_drivesEmpty_2 rfl rfl ?_
  refine z_iload_n 1 dX12_drivesEmpty_3 rfl rfl ?_
  refine z_icmp_eq 34 hf dX12_drivesEmpty_4 (by decide) (fun hf => ?_) (fun hf => ?_)
  · refine z_lv [(3, .int l3)] [2] rfl ?_
    exact zb_X12_drivesEmpty_34 hE hf
  · refine z_aload_n 0 dX12_drivesEmpty_7 rfl rfl ?_
    refine z_iload_n 2 dX12_drivesEmpty_8 rfl rfl ?_
    refine z_iload_n 1 dX12_drivesEmpty_9 rfl rfl ?_
    obtain ⟨v1, ev1, hf⟩ := ob hf
    refine z_cVi (ci := 12) (T := TX12) (N := 32) (As := [.int l3, .int l2]) (rest := []) (zm_X12_onTo ev1).2 (zm_X12_onTo ev1).1 (by decide) rfl (Or.inl rfl) mw_19_9 mw_19_10 mw_19_11 mw_1_5 mw_19_12 yk_X12_onTo (by decide) (by decide) rfl (Nat.le_of_ble_eq_true rfl) rfl dX12_drivesEmpty_10 ?_
    refine z_istore [(4, .int v1), (0, .ref l0), (2, .int l2), (3, .int l3)] dX12_drivesEmpty_13 (by decide) rfl ?_
    refine z_aload_n 1 dX12_drivesEmpty_15 rfl rfl ?_
    refine z_iload 0 dX12_drivesEmpty_16 rfl ?_
    refine z_iload_n 3 dX12_drivesEmpty_18 rfl rfl ?_
    refine z_iconst 0 0 dX12_drivesEmpty_19 (by decide) ?_
    obtain ⟨v2, ev2, hf⟩ := ob hf
    refine z_cVv (ci := 12) (T := TX12) (N := 32) (As := [.int v1, .int l3, .int (0 : Int32)]) (rest := []) (zm_X12_drive ev2).2 (zm_X12_drive ev2).1 (by decide) rfl (Or.inl rfl) mw_49_5 mw_49_6 mw_49_7 mw_1_5 mw_49_8 yk_X12_drive (by decide) (by decide) rfl (Nat.le_of_ble_eq_true rfl) rfl dX12_drivesEmpty_20 ?_
    refine z_aload_n 1 dX12_drivesEmpty_23 rfl rfl ?_
    refine z_iload 0 dX12_drivesEmpty_24 rfl ?_
    refine z_iload_n 3 dX12_drivesEmpty_26 rfl rfl ?_
    obtain ⟨v3, ev3, hf⟩ := ob hf
    refine z_cVi (ci := 12) (T := TX12) (N := 32) (As := [.int v1, .int l3]) (rest := []) (zm_X12_leads ev3).2 (zm_X12_leads ev3).1 (by decide) rfl (Or.inl rfl) mw_19_13 mw_19_14 mw_19_15 mw_1_5 mw_19_16 yk_X12_leads (by decide) (by decide) rfl (Nat.le_of_ble_eq_true rfl) rfl dX12_drivesEmpty_27 ?_
    refine z_istore_n [(3, .int v3), (4, .int v1), (0, .ref l0), (2, .int l2)] dX12_drivesEmpty_30 rfl (by decide) rfl ?_
    refine z_goto 2 dX12_drivesEmpty_31 (by decide) ?_
    refine z_lv [(0, .ref l0), (2, .int l2), (3, .int v3)] [2, 3, 0] rfl ?_
    exact hk2 _ _ _ _ hf
set_option maxRecDepth 20000 in
theorem zb_X12_drivesEmpty_2 {N : Nat} {sh : Sh} {r : Int32 × Dt} {E : EV} (hE : TG E (some (.int r.1)) (sh, r.2))  : ∀ (n : Nat) (l0 : Nat) (l2 : Int32) (l3 : Int32) (d : Dt), f_X12_drivesEmpty_2 N sh n l0 l2 l3 d = some r → Z E yX12_drivesEmpty cX12_drivesEmpty 5 (some .int) 4 (sh, d) 2 [(0, .ref l0), (2, .int l2), (3, .int l3)] [] := by
  intro n
  induction n with
  | zero => intro l0 l2 l3 d hf; cases hf
  | succ n ih => intro l0 l2 l3 d hf; exact zg_X12_drivesEmpty_2 hE ih hf
set_option maxRecDepth 20000 in
theorem zm_X12_drivesEmpty {N : Nat} {sh : Sh} {d : Dt} {l0 : Nat} {l1 : Int32} {l2 : Int32} {r : Int32 × Dt} (hf : f_X12_drivesEmpty N sh l0 l1 l2 d = some r) : isO sh l0 12 ∧ ∀ (l : Launch) (G : GG), Mt l G yX12_drivesEmpty cX12_drivesEmpty 5 (some .int) 4 [.ref l0, .int l1, .int l2] (sh, d) (some (.int r.1)) (sh, r.2) := by
  have hf0 := hf
  unfold f_X12_drivesEmpty at hf
  refine ite_d hf (fun hO hf => ?_) (fun _ hf => ?_)
  · refine ⟨hO, fun l G => mt_of (Or.inl (by decide)) (Nat.le_of_ble_eq_true rfl) Le.rf (fun E hE => ?_)⟩
    show Z E yX12_drivesEmpty cX12_drivesEmpty 5 (some .int) 4 (sh, d) 0 [(0, .ref l0), (1, .int l1), (2, .int l2)] []
    refine z_iload_n 1 dX12_drivesEmpty_0 rfl rfl ?_
    refine z_istore_n [(3, .int l1), (0, .ref l0), (1, .int l1), (2, .int l2)] dX12_drivesEmpty_1 rfl (by decide) rfl ?_
    refine z_lv [(0, .ref l0), (2, .int l2), (3, .int l1)] [1, 3, 0] rfl ?_
    exact zb_X12_drivesEmpty_2 hE N _ _ _ _ hf
  · cases hf
set_option maxRecDepth 20000 in
theorem zb_X12_endOf_86 {N : Nat} {sh : Sh} {d : Dt} {r : Int32} {E : EV} (hE : TG E (some (.int r)) (sh, d))  {l2 : Int32} (hf : f_X12_endOf_86 N sh l2 d = some r) : Z E yX12_endOf cX12_endOf 5 (some .int) 2 (sh, d) 86 [(2, .int l2)] [] := by
  unfold f_X12_endOf_86 at hf
  refine z_iload_n 0 dX12_endOf_86 rfl rfl ?_
  cases hf
  exact z_ireturn hE rfl dX12_endOf_87
set_option maxRecDepth 20000 in
theorem zb_X12_endOf_79 {N : Nat} {sh : Sh} {d : Dt} {k4 : Nat → Int32 → Int32 → Int32 → Option Int32} {r : Int32} {E : EV} (hE : TG E (some (.int r)) (sh, d)) (hk4 : ∀ (l0 : Nat) (l1 : Int32) (l2 : Int32) (l3 : Int32), k4 l0 l1 l2 l3 = some r → Z E yX12_endOf cX12_endOf 5 (some .int) 2 (sh, d) 4 [(0, .ref l0), (1, .int l1), (2, .int l2), (3, .int l3)] []) {l0 : Nat} {l1 : Int32} {l3 : Int32} {t0 : Int32} (hf : f_X12_endOf_79 N sh k4 l0 l1 l3 t0 d = some r) : Z E yX12_endOf cX12_endOf 5 (some .int) 2 (sh, d) 79 [(0, .ref l0), (1, .int l1), (3, .int l3)] [.int t0] := by
  unfold f_X12_endOf_79 at hf
  refine z_istore_n [(2, .int t0), (0, .ref l0), (1, .int l1), (3, .int l3)] dX12_endOf_79 rfl (by decide) rfl ?_
  refine z_iinc [(3, .int (l3 + 1)), (2, .int t0), (0, .ref l0), (1, .int l1)] 3 (l3 + 1) dX12_endOf_80 rfl rfl (by decide) rfl ?_
  refine z_goto 4 dX12_endOf_83 (by decide) ?_
  refine z_lv [(0, .ref l0), (1, .int l1), (2, .int t0), (3, .int (l3 + 1))] [2, 3, 1, 0] rfl ?_
  exact hk4 _ _ _ _ hf
set_option maxRecDepth 20000 in
theorem zb_X12_endOf_78 {N : Nat} {sh : Sh} {d : Dt} {k4 : Nat → Int32 → Int32 → Int32 → Option Int32} {r : Int32} {E : EV} (hE : TG E (some (.int r)) (sh, d)) (hk4 : ∀ (l0 : Nat) (l1 : Int32) (l2 : Int32) (l3 : Int32), k4 l0 l1 l2 l3 = some r → Z E yX12_endOf cX12_endOf 5 (some .int) 2 (sh, d) 4 [(0, .ref l0), (1, .int l1), (2, .int l2), (3, .int l3)] []) {l0 : Nat} {l1 : Int32} {l2 : Int32} {l3 : Int32} (hf : f_X12_endOf_78 N sh k4 l0 l1 l2 l3 d = some r) : Z E yX12_endOf cX12_endOf 5 (some .int) 2 (sh, d) 78 [(0, .ref l0), (1, .int l1), (2, .int l2), (3, .int l3)] [] := by
  unfold f_X12_endOf_78 at hf
  refine z_iload_n 2 dX12_endOf_78 rfl rfl ?_
  refine z_lv [(0, .ref l0), (1, .int l1), (3, .int l3)] [0, 1, 3] rfl ?_
  exact zb_X12_endOf_79 hE hk4 hf
set_option maxRecDepth 20000 in
theorem zg_X12_endOf_4 {N : Nat} {sh : Sh} {d : Dt} {r : Int32} {k4 : Nat → Int32 → Int32 → Int32 → Option Int32} {E : EV} (hE : TG E (some (.int r)) (sh, d))  (hk4 : ∀ (l0 : Nat) (l1 : Int32) (l2 : Int32) (l3 : Int32), k4 l0 l1 l2 l3 = some r → Z E yX12_endOf cX12_endOf 5 (some .int) 2 (sh, d) 4 [(0, .ref l0), (1, .int l1), (2, .int l2), (3, .int l3)] []) {l0 : Nat} {l1 : Int32} {l2 : Int32} {l3 : Int32} (hf : g_X12_endOf_4 N sh k4 l0 l1 l2 l3 d = some r) : Z E yX12_endOf cX12_endOf 5 (some .int) 2 (sh, d) 4 [(0, .ref l0), (1, .int l1), (2, .int l2), (3, .int l3)] [] := by
  unfold g_X12_endOf_4 at hf
  refine z_iload_n 3 dX12_endOf_4 rfl rfl ?_
  refine z_aload_n 0 dX12_endOf_5 rfl rfl ?_
  refine z_gP (ci := 12) (k := 0) (C := RX12) (T := TX12) (N := 32) rfl inlX12 (by decide) mw_6_19 (fun _ _ _ _ h9 => h9) hf (by decide) rfl dX12_endOf_6  (fun v1 hf => ?_)
  refine z_iconst 3 3 dX12_endOf_9 (by decide) ?_
  refine z_aI hf dX12_endOf_10  (fun v2 hf => ?_)
  refine z_icmp_ge 86 hf dX12_endOf_11 (by decide) (fun hf => ?_) (fun hf => ?_)
  · refine z_lv [(2, .int l2)] [2] rfl ?_
    exact zb_X12_endOf_86 hE hf
  · refine z_aload_n 0 dX12_endOf_14 rfl rfl ?_
    refine z_iload_n 3 dX12_endOf_15 rfl rfl ?_
    obtain ⟨v3, ev3, hf⟩ := ob hf
    refine z_cVi (ci := 12) (T := TX12) (N := 32) (As := [.int l3]) (rest := []) (zm_X12_pl ev3).2 (zm_X12_pl ev3).1 (by decide) rfl (Or.inl rfl) mw_31_6 mw_31_7 mw_31_8 mw_1_5 mw_31_9 yk_X12_pl (by decide) (by decide) rfl (Nat.le_of_ble_eq_true rfl) rfl dX12_endOf_16 ?_
    refine z_istore [(4, .int v3), (0, .ref l0), (1, .int l1), (2, .int l2), (3, .int l3)] dX12_endOf_19 (by decide) rfl ?_
    refine z_aload_n 1 dX12_endOf_21 rfl rfl ?_
    refine z_gP (ci := 12) (k := 0) (C := RX12) (T := TX12) (N := 32) rfl inlX12 (by decide) mw_6_19 (fun _ _ _ _ h9 => h9) hf (by decide) rfl dX12_endOf_22  (fun v4 hf => ?_)
    refine z_iload 0 dX12_endOf_25 rfl ?_
    refine z_iconst 5 5 dX12_endOf_27 (by decide) ?_
    refine z_iadd dX12_endOf_28 ?_
    refine z_aI hf dX12_endOf_29  (fun v5 hf => ?_)
    refine z_iconst 1 1 dX12_endOf_30 (by decide) ?_
    refine z_icmp_ne 78 hf dX12_endOf_31 (by decide) (fun hf => ?_) (fun hf => ?_)
    · refine z_lv [(0, .ref l0), (1, .int l1), (2, .int l2), (3, .int l3)] [1, 2, 3, 4] rfl ?_
      exact zb_X12_endOf_78 hE hk4 hf
    · refine z_aload_n 1 dX12_endOf_34 rfl rfl ?_
      refine z_gP (ci := 12) (k := 0) (C := RX12) (T := TX12) (N := 32) rfl inlX12 (by decide) mw_6_19 (fun _ _ _ _ h9 => h9) hf (by decide) rfl dX12_endOf_35  (fun v6 hf => ?_)
      refine z_iload 0 dX12_endOf_38 rfl ?_
      refine z_bipush 7 7 dX12_endOf_40 (by decide) ?_
      refine z_iadd dX12_endOf_42 ?_
      refine z_aI hf dX12_endOf_43  (fun v7 hf => ?_)
      refine z_if_le 78 hf dX12_endOf_44 (by decide) (fun hf => ?_) (fun hf => ?_)
      · refine z_lv [(0, .ref l0), (1, .int l1), (2, .int l2), (3, .int l3)] [1, 2, 3, 4] rfl ?_
        exact zb_X12_endOf_78 hE hk4 hf
      · refine z_aload_n 1 dX12_endOf_47 rfl rfl ?_
        refine z_gP (ci := 12) (k := 0) (C := RX12) (T := TX12) (N := 32) rfl inlX12 (by decide) mw_6_19 (fun _ _ _ _ h9 => h9) hf (by decide) rfl dX12_endOf_48  (fun v8 hf => ?_)
        refine z_iload 0 dX12_endOf_51 rfl ?_
        refine z_bipush 6 6 dX12_endOf_53 (by decide) ?_
        refine z_iadd dX12_endOf_55 ?_
        refine z_aI hf dX12_endOf_56  (fun v9 hf => ?_)
        refine z_aload_n 1 dX12_endOf_57 rfl rfl ?_
        refine z_gP (ci := 12) (k := 0) (C := RX12) (T := TX12) (N := 32) rfl inlX12 (by decide) mw_6_19 (fun _ _ _ _ h9 => h9) hf (by decide) rfl dX12_endOf_58  (fun v10 hf => ?_)
        refine z_iload 0 dX12_endOf_61 rfl ?_
        refine z_bipush 7 7 dX12_endOf_63 (by decide) ?_
        refine z_iadd dX12_endOf_65 ?_
        refine z_aI hf dX12_endOf_66  (fun v11 hf => ?_)
        refine z_iadd dX12_endOf_67 ?_
        refine z_iconst 1 1 dX12_endOf_68 (by decide) ?_
        refine z_isub dX12_endOf_69 ?_
        refine z_iload_n 2 dX12_endOf_70 rfl rfl ?_
        refine z_icmp_ne 78 hf dX12_endOf_71 (by decide) (fun hf => ?_) (fun hf => ?_)
        · refine z_lv [(0, .ref l0), (1, .int l1), (2, .int l2), (3, .int l3)] [1, 2, 3, 4] rfl ?_
          exact zb_X12_endOf_78 hE hk4 hf
        · refine z_iload_n 4 dX12_endOf_74 rfl rfl ?_
          refine z_goto 79 dX12_endOf_75 (by decide) ?_
          refine z_lv [(0, .ref l0), (1, .int l1), (3, .int l3)] [1, 2, 4] rfl ?_
          exact zb_X12_endOf_79 hE hk4 hf
set_option maxRecDepth 20000 in
theorem zb_X12_endOf_4 {N : Nat} {sh : Sh} {d : Dt} {r : Int32} {E : EV} (hE : TG E (some (.int r)) (sh, d))  : ∀ (n : Nat) (l0 : Nat) (l1 : Int32) (l2 : Int32) (l3 : Int32), f_X12_endOf_4 N sh d n l0 l1 l2 l3 = some r → Z E yX12_endOf cX12_endOf 5 (some .int) 2 (sh, d) 4 [(0, .ref l0), (1, .int l1), (2, .int l2), (3, .int l3)] [] := by
  intro n
  induction n with
  | zero => intro l0 l1 l2 l3 hf; cases hf
  | succ n ih => intro l0 l1 l2 l3 hf; exact zg_X12_endOf_4 hE ih hf
set_option maxRecDepth 20000 in
theorem zm_X12_endOf {N : Nat} {sh : Sh} {d : Dt} {l0 : Nat} {l1 : Int32} {r : Int32} (hf : f_X12_endOf N sh l0 l1 d = some r) : isO sh l0 12 ∧ ∀ (l : Launch) (G : GG), Mt l G yX12_endOf cX12_endOf 5 (some .int) 2 [.ref l0, .int l1] (sh, d) (some (.int r)) (sh, d) := by
  have hf0 := hf
  unfold f_X12_endOf at hf
  refine ite_d hf (fun hO hf => ?_) (fun _ hf => ?_)
  · refine ⟨hO, fun l G => mt_of (Or.inl (by decide)) (Nat.le_of_ble_eq_true rfl) Le.rf (fun E hE => ?_)⟩
    show Z E yX12_endOf cX12_endOf 5 (some .int) 2 (sh, d) 0 [(0, .ref l0), (1, .int l1)] []
    refine z_iconst (-1) (-1) dX12_endOf_0 (by decide) ?_
    refine z_istore_n [(2, .int (-1 : Int32)), (0, .ref l0), (1, .int l1)] dX12_endOf_1 rfl (by decide) rfl ?_
    refine z_iconst 0 0 dX12_endOf_2 (by decide) ?_
    refine z_istore_n [(3, .int (0 : Int32)), (2, .int (-1 : Int32)), (0, .ref l0), (1, .int l1)] dX12_endOf_3 rfl (by decide) rfl ?_
    refine z_lv [(0, .ref l0), (1, .int l1), (2, .int (-1 : Int32)), (3, .int (0 : Int32))] [2, 3, 1, 0] rfl ?_
    exact zb_X12_endOf_4 hE N _ _ _ _ hf
  · cases hf
set_option maxRecDepth 20000 in
theorem zb_X12_lowest_16 {N : Nat} {sh : Sh} {d : Dt} {r : Int32} {E : EV} (hE : TG E (some (.int r)) (sh, d))  {l1 : Int32} (hf : f_X12_lowest_16 N sh l1 d = some r) : Z E yX12_lowest cX12_lowest 2 (some .int) 1 (sh, d) 16 [(1, .int l1)] [] := by
  unfold f_X12_lowest_16 at hf
  refine z_iload_n 0 dX12_lowest_16 rfl rfl ?_
  cases hf
  exact z_ireturn hE rfl dX12_lowest_17
set_option maxRecDepth 20000 in
theorem zg_X12_lowest_2 {N : Nat} {sh : Sh} {d : Dt} {r : Int32} {k2 : Int32 → Int32 → Option Int32} {E : EV} (hE : TG E (some (.int r)) (sh, d))  (hk2 : ∀ (l0 : Int32) (l1 : Int32), k2 l0 l1 = some r → Z E yX12_lowest cX12_lowest 2 (some .int) 1 (sh, d) 2 [(0, .int l0), (1, .int l1)] []) {l0 : Int32} {l1 : Int32} (hf : g_X12_lowest_2 N sh k2 l0 l1 d = some r) : Z E yX12_lowest cX12_lowest 2 (some .int) 1 (sh, d) 2 [(0, .int l0), (1, .int l1)] [] := by
  unfold g_X12_lowest_2 at hf
  refine z_iload_n 0 dX12_lowest_2 rfl rfl ?_
  refine z_iload_n 1 dX12_lowest_3 rfl rfl ?_
  refine z_ishr dX12_lowest_4 ?_
  refine z_iconst 1 1 dX12_lowest_5 (by decide) ?_
  refine z_iand dX12_lowest_6 ?_
  refine z_if_ne 16 hf dX12_lowest_7 (by decide) (fun hf => ?_) (fun hf => ?_)
  · refine z_lv [(1, .int l1)] [1] rfl ?_
    exact zb_X12_lowest_16 hE hf
  · refine z_iinc [(1, .int (l1 + 1)), (0, .int l0)] 1 (l1 + 1) dX12_lowest_10 rfl rfl (by decide) rfl ?_
    refine z_goto 2 dX12_lowest_13 (by decide) ?_
    refine z_lv [(0, .int l0), (1, .int (l1 + 1))] [1, 0] rfl ?_
    exact hk2 _ _ hf
set_option maxRecDepth 20000 in
theorem zb_X12_lowest_2 {N : Nat} {sh : Sh} {d : Dt} {r : Int32} {E : EV} (hE : TG E (some (.int r)) (sh, d))  : ∀ (n : Nat) (l0 : Int32) (l1 : Int32), f_X12_lowest_2 N sh d n l0 l1 = some r → Z E yX12_lowest cX12_lowest 2 (some .int) 1 (sh, d) 2 [(0, .int l0), (1, .int l1)] [] := by
  intro n
  induction n with
  | zero => intro l0 l1 hf; cases hf
  | succ n ih => intro l0 l1 hf; exact zg_X12_lowest_2 hE ih hf
set_option maxRecDepth 20000 in
theorem zm_X12_lowest {N : Nat} {sh : Sh} {d : Dt} {l0 : Int32} {r : Int32} (hf : f_X12_lowest N sh l0 d = some r) : ∀ (l : Launch) (G : GG), Mt l G yX12_lowest cX12_lowest 2 (some .int) 1 [.int l0] (sh, d) (some (.int r)) (sh, d) := by
  have hf0 := hf
  unfold f_X12_lowest at hf
  refine fun l G => mt_of (Or.inl (by decide)) (Nat.le_of_ble_eq_true rfl) Le.rf (fun E hE => ?_)
  show Z E yX12_lowest cX12_lowest 2 (some .int) 1 (sh, d) 0 [(0, .int l0)] []
  refine z_iconst 0 0 dX12_lowest_0 (by decide) ?_
  refine z_istore_n [(1, .int (0 : Int32)), (0, .int l0)] dX12_lowest_1 rfl (by decide) rfl ?_
  refine z_lv [(0, .int l0), (1, .int (0 : Int32))] [1, 0] rfl ?_
  exact zb_X12_lowest_2 hE N _ _ hf
set_option maxRecDepth 20000 in
theorem zb_X12_findLeastOf_90 {N : Nat} {sh : Sh} {r : Dt} {E : EV} (hE : TG E none (sh, r))   {d : Dt} (hf : f_X12_findLeastOf_90 N sh  d = some r) : Z E yX12_findLeastOf cX12_findLeastOf 5 none 3 (sh, d) 90 [] [] := by
  unfold f_X12_findLeastOf_90 at hf
  cases hf
  exact z_return hE rfl dX12_findLeastOf_90
set_option maxRecDepth 20000 in
theorem zb_X12_findLeastOf_84 {N : Nat} {sh : Sh} {k17 : Nat → Int32 → Int32 → Int32 → Dt → Option Dt} {r : Dt} {E : EV} (hE : TG E none (sh, r)) (hk17 : ∀ (l0 : Nat) (l1 : Int32) (l2 : Int32) (l3 : Int32) (d : Dt), k17 l0 l1 l2 l3 d = some r → Z E yX12_findLeastOf cX12_findLeastOf 5 none 3 (sh, d) 17 [(0, .ref l0), (1, .int l1), (2, .int l2), (3, .int l3)] []) {l0 : Nat} {l1 : Int32} {l2 : Int32} {l3 : Int32} {d : Dt} (hf : f_X12_findLeastOf_84 N sh k17 l0 l1 l2 l3 d = some r) : Z E yX12_findLeastOf cX12_findLeastOf 5 none 3 (sh, d) 84 [(0, .ref l0), (1, .int l1), (2, .int l2), (3, .int l3)] [] := by
  unfold f_X12_findLeastOf_84 at hf
  refine z_iinc [(3, .int (l3 + 1)), (0, .ref l0), (1, .int l1), (2, .int l2)] 3 (l3 + 1) dX12_findLeastOf_84 rfl rfl (by decide) rfl ?_
  refine z_goto 17 dX12_findLeastOf_87 (by decide) ?_
  refine z_lv [(0, .ref l0), (1, .int l1), (2, .int l2), (3, .int (l3 + 1))] [1, 2, 3, 0] rfl ?_
  exact hk17 _ _ _ _ _ hf
set_option maxRecDepth 20000 in
theorem zg_X12_findLeastOf_17 {N : Nat} {sh : Sh} {r : Dt} {k17 : Nat → Int32 → Int32 → Int32 → Dt → Option Dt} {E : EV} (hE : TG E none (sh, r))  (hk17 : ∀ (l0 : Nat) (l1 : Int32) (l2 : Int32) (l3 : Int32) (d : Dt), k17 l0 l1 l2 l3 d = some r → Z E yX12_findLeastOf cX12_findLeastOf 5 none 3 (sh, d) 17 [(0, .ref l0), (1, .int l1), (2, .int l2), (3, .int l3)] []) {l0 : Nat} {l1 : Int32} {l2 : Int32} {l3 : Int32} {d : Dt} (hf : g_X12_findLeastOf_17 N sh k17 l0 l1 l2 l3 d = some r) : Z E yX12_findLeastOf cX12_findLeastOf 5 none 3 (sh, d) 17 [(0, .ref l0), (1, .int l1), (2, .int l2), (3, .int l3)] [] := by
  unfold g_X12_findLeastOf_17 at hf
  refine z_iload_n 3 dX12_findLeastOf_17 rfl rfl ?_
  refine z_aload_n 0 dX12_findLeastOf_18 rfl rfl ?_
  refine z_gI (ci := 12) (k := 16) (C := RX12) (T := TX12) (N := 32) rfl inlX12 (by decide) mw_40_8 (fun _ _ _ _ h9 => h9) hf (by decide) rfl dX12_findLeastOf_19  (fun v4 hf => ?_)
  refine z_icmp_ge 90 hf dX12_findLeastOf_22 (by decide) (fun hf => ?_) (fun hf => ?_)
  · refine z_lv [] [] rfl ?_
    exact zb_X12_findLeastOf_90 hE hf
  · refine z_iload_n 1 dX12_findLeastOf_25 rfl rfl ?_
    refine z_iload_n 3 dX12_findLeastOf_26 rfl rfl ?_
    refine z_ishr dX12_findLeastOf_27 ?_
    refine z_iconst 1 1 dX12_findLeastOf_28 (by decide) ?_
    refine z_iand dX12_findLeastOf_29 ?_
    refine z_iconst 1 1 dX12_findLeastOf_30 (by decide) ?_
    refine z_icmp_ne 84 hf dX12_findLeastOf_31 (by decide) (fun hf => ?_) (fun hf => ?_)
    · exact zb_X12_findLeastOf_84 hE hk17 hf
    · refine z_aload_n 0 dX12_findLeastOf_34 rfl rfl ?_
      refine z_aload_n 0 dX12_findLeastOf_35 rfl rfl ?_
      refine z_gP (ci := 12) (k := 15) (C := RX12) (T := TX12) (N := 32) rfl inlX12 (by decide) mw_7_5 (fun _ _ _ _ h9 => h9) hf (by decide) rfl dX12_findLeastOf_36  (fun v5 hf => ?_)
      refine z_iload_n 2 dX12_findLeastOf_39 rfl rfl ?_
      refine z_aI hf dX12_findLeastOf_40  (fun v6 hf => ?_)
      refine z_aload_n 0 dX12_findLeastOf_41 rfl rfl ?_
      refine z_gP (ci := 12) (k := 15) (C := RX12) (T := TX12) (N := 32) rfl inlX12 (by decide) mw_7_5 (fun _ _ _ _ h9 => h9) hf (by decide) rfl dX12_findLeastOf_42  (fun v7 hf => ?_)
      refine z_iload_n 3 dX12_findLeastOf_45 rfl rfl ?_
      refine z_aI hf dX12_findLeastOf_46  (fun v8 hf => ?_)
      obtain ⟨v9, ev9, hf⟩ := ob hf
      refine z_cVi (ci := 12) (T := TX12) (N := 32) (As := [.int v6, .int v8]) (rest := []) (zm_X12_between ev9).2 (zm_X12_between ev9).1 (by decide) rfl (Or.inl rfl) mw_42_23 mw_43_0 mw_43_1 mw_1_5 mw_43_2 yk_X12_between (by decide) (by decide) rfl (Nat.le_of_ble_eq_true rfl) rfl dX12_findLeastOf_47 ?_
      refine z_aload_n 0 dX12_findLeastOf_50 rfl rfl ?_
      refine z_gP (ci := 12) (k := 18) (C := RX12) (T := TX12) (N := 32) rfl inlX12 (by decide) mw_7_7 (fun _ _ _ _ h9 => h9) hf (by decide) rfl dX12_findLeastOf_51  (fun v10 hf => ?_)
      refine z_iload_n 1 dX12_findLeastOf_54 rfl rfl ?_
      refine z_iconst 1 1 dX12_findLeastOf_55 (by decide) ?_
      refine z_iload_n 2 dX12_findLeastOf_56 rfl rfl ?_
      refine z_ishl dX12_findLeastOf_57 ?_
      refine z_ixor dX12_findLeastOf_58 ?_
      refine z_iconst 1 1 dX12_findLeastOf_59 (by decide) ?_
      refine z_iload_n 3 dX12_findLeastOf_60 rfl rfl ?_
      refine z_ishl dX12_findLeastOf_61 ?_
      refine z_ixor dX12_findLeastOf_62 ?_
      refine z_aI hf dX12_findLeastOf_63  (fun v11 hf => ?_)
      refine z_iadd dX12_findLeastOf_64 ?_
      refine z_istore [(4, .int (v9 + v11)), (0, .ref l0), (1, .int l1), (2, .int l2), (3, .int l3)] dX12_findLeastOf_65 (by decide) rfl ?_
      refine z_aload_n 1 dX12_findLeastOf_67 rfl rfl ?_
      refine z_gP (ci := 12) (k := 18) (C := RX12) (T := TX12) (N := 32) rfl inlX12 (by decide) mw_7_7 (fun _ _ _ _ h9 => h9) hf (by decide) rfl dX12_findLeastOf_68  (fun v12 hf => ?_)
      refine z_iload_n 2 dX12_findLeastOf_71 rfl rfl ?_
      refine z_aload_n 1 dX12_findLeastOf_72 rfl rfl ?_
      refine z_gP (ci := 12) (k := 18) (C := RX12) (T := TX12) (N := 32) rfl inlX12 (by decide) mw_7_7 (fun _ _ _ _ h9 => h9) hf (by decide) rfl dX12_findLeastOf_73  (fun v13 hf => ?_)
      refine z_iload_n 2 dX12_findLeastOf_76 rfl rfl ?_
      refine z_aI hf dX12_findLeastOf_77  (fun v14 hf => ?_)
      refine z_iload 0 dX12_findLeastOf_78 rfl ?_
      obtain ⟨v15, ev15, hf⟩ := ob hf
      refine z_cTi (As := [.int v14, .int (v9 + v11)]) (rest := [.int l1, .ref v12]) (zm_X12_lesser ev15) (Or.inl rfl) mw_25_11 mw_25_12 mw_1_5 mw_25_13 yk_X12_lesser (by decide) (by decide) rfl (Nat.le_of_ble_eq_true rfl) rfl dX12_findLeastOf_80 ?_
      refine z_sI hf dX12_findLeastOf_83  (fun d16 hf => ?_)
      refine z_lv [(0, .ref l0), (1, .int l1), (2, .int l2), (3, .int l3)] [1, 2, 3, 4] rfl ?_
      exact zb_X12_findLeastOf_84 hE hk17 hf
set_option maxRecDepth 20000 in
theorem zb_X12_findLeastOf_17 {N : Nat} {sh : Sh} {r : Dt} {E : EV} (hE : TG E none (sh, r))  : ∀ (n : Nat) (l0 : Nat) (l1 : Int32) (l2 : Int32) (l3 : Int32) (d : Dt), f_X12_findLeastOf_17 N sh n l0 l1 l2 l3 d = some r → Z E yX12_findLeastOf cX12_findLeastOf 5 none 3 (sh, d) 17 [(0, .ref l0), (1, .int l1), (2, .int l2), (3, .int l3)] [] := by
  intro n
  induction n with
  | zero => intro l0 l1 l2 l3 d hf; cases hf
  | succ n ih => intro l0 l1 l2 l3 d hf; exact zg_X12_findLeastOf_17 hE ih hf
set_option maxRecDepth 20000 in
theorem zm_X12_findLeastOf {N : Nat} {sh : Sh} {d : Dt} {l0 : Nat} {l1 : Int32} {r : Dt} (hf : f_X12_findLeastOf N sh l0 l1 d = some r) : isO sh l0 12 ∧ ∀ (l : Launch) (G : GG), Mt l G yX12_findLeastOf cX12_findLeastOf 5 none 3 [.ref l0, .int l1] (sh, d) none (sh, r) := by
  have hf0 := hf
  unfold f_X12_findLeastOf at hf
  refine ite_d hf (fun hO hf => ?_) (fun _ hf => ?_)
  · refine ⟨hO, fun l G => mt_of (Or.inl (by decide)) (Nat.le_of_ble_eq_true rfl) Le.rf (fun E hE => ?_)⟩
    show Z E yX12_findLeastOf cX12_findLeastOf 5 none 3 (sh, d) 0 [(0, .ref l0), (1, .int l1)] []
    refine z_iload_n 1 dX12_findLeastOf_0 rfl rfl ?_
    obtain ⟨v1, ev1, hf⟩ := ob hf
    refine z_cTi (As := [.int l1]) (rest := []) (zm_X12_lowest ev1) (Or.inl rfl) mw_42_20 mw_42_21 mw_1_5 mw_42_22 yk_X12_lowest (by decide) (by decide) rfl (Nat.le_of_ble_eq_true rfl) rfl dX12_findLeastOf_1 ?_
    refine z_istore_n [(2, .int v1), (0, .ref l0), (1, .int l1)] dX12_findLeastOf_4 rfl (by decide) rfl ?_
    refine z_aload_n 1 dX12_findLeastOf_5 rfl rfl ?_
    refine z_gP (ci := 12) (k := 18) (C := RX12) (T := TX12) (N := 32) rfl inlX12 (by decide) mw_7_7 (fun _ _ _ _ h9 => h9) hf (by decide) rfl dX12_findLeastOf_6  (fun v2 hf => ?_)
    refine z_iload_n 2 dX12_findLeastOf_9 rfl rfl ?_
    refine z_ldc mw_17_19 dX12_findLeastOf_10 ?_
    refine z_sI hf dX12_findLeastOf_12  (fun d3 hf => ?_)
    refine z_iload_n 0 dX12_findLeastOf_13 rfl rfl ?_
    refine z_iconst 1 1 dX12_findLeastOf_14 (by decide) ?_
    refine z_iadd dX12_findLeastOf_15 ?_
    refine z_istore_n [(3, .int (v1 + (1 : Int32))), (2, .int v1), (0, .ref l0), (1, .int l1)] dX12_findLeastOf_16 rfl (by decide) rfl ?_
    refine z_lv [(0, .ref l0), (1, .int l1), (2, .int v1), (3, .int (v1 + (1 : Int32)))] [2, 3, 1, 0] rfl ?_
    exact zb_X12_findLeastOf_17 hE N _ _ _ _ _ hf
  · cases hf
set_option maxRecDepth 20000 in
theorem zb_X12_findLeast_32 {N : Nat} {sh : Sh} {r : Dt} {E : EV} (hE : TG E none (sh, r))   {d : Dt} (hf : f_X12_findLeast_32 N sh  d = some r) : Z E yX12_findLeast cX12_findLeast 3 none 4 (sh, d) 32 [] [] := by
  unfold f_X12_findLeast_32 at hf
  cases hf
  exact z_return hE rfl dX12_findLeast_32
set_option maxRecDepth 20000 in
theorem zb_X12_findLeast_26 {N : Nat} {sh : Sh} {k9 : Nat → Int32 → Int32 → Dt → Option Dt} {r : Dt} {E : EV} (hE : TG E none (sh, r)) (hk9 : ∀ (l0 : Nat) (l1 : Int32) (l2 : Int32) (d : Dt), k9 l0 l1 l2 d = some r → Z E yX12_findLeast cX12_findLeast 3 none 4 (sh, d) 9 [(0, .ref l0), (1, .int l1), (2, .int l2)] []) {l0 : Nat} {l1 : Int32} {l2 : Int32} {d : Dt} (hf : f_X12_findLeast_26 N sh k9 l0 l1 l2 d = some r) : Z E yX12_findLeast cX12_findLeast 3 none 4 (sh, d) 26 [(0, .ref l0), (1, .int l1), (2, .int l2)] [] := by
  unfold f_X12_findLeast_26 at hf
  refine z_iinc [(2, .int (l2 + 1)), (0, .ref l0), (1, .int l1)] 2 (l2 + 1) dX12_findLeast_26 rfl rfl (by decide) rfl ?_
  refine z_goto 9 dX12_findLeast_29 (by decide) ?_
  refine z_lv [(0, .ref l0), (1, .int l1), (2, .int (l2 + 1))] [1, 2, 0] rfl ?_
  exact hk9 _ _ _ _ hf
set_option maxRecDepth 20000 in
theorem zg_X12_findLeast_9 {N : Nat} {sh : Sh} {r : Dt} {k9 : Nat → Int32 → Int32 → Dt → Option Dt} {E : EV} (hE : TG E none (sh, r))  (hk9 : ∀ (l0 : Nat) (l1 : Int32) (l2 : Int32) (d : Dt), k9 l0 l1 l2 d = some r → Z E yX12_findLeast cX12_findLeast 3 none 4 (sh, d) 9 [(0, .ref l0), (1, .int l1), (2, .int l2)] []) {l0 : Nat} {l1 : Int32} {l2 : Int32} {d : Dt} (hf : g_X12_findLeast_9 N sh k9 l0 l1 l2 d = some r) : Z E yX12_findLeast cX12_findLeast 3 none 4 (sh, d) 9 [(0, .ref l0), (1, .int l1), (2, .int l2)] [] := by
  unfold g_X12_findLeast_9 at hf
  refine z_iload_n 2 dX12_findLeast_9 rfl rfl ?_
  refine z_iload_n 1 dX12_findLeast_10 rfl rfl ?_
  refine z_icmp_gt 32 hf dX12_findLeast_11 (by decide) (fun hf => ?_) (fun hf => ?_)
  · refine z_lv [] [] rfl ?_
    exact zb_X12_findLeast_32 hE hf
  · refine z_iload_n 2 dX12_findLeast_14 rfl rfl ?_
    refine z_iload_n 1 dX12_findLeast_15 rfl rfl ?_
    refine z_iand dX12_findLeast_16 ?_
    refine z_iload_n 2 dX12_findLeast_17 rfl rfl ?_
    refine z_icmp_ne 26 hf dX12_findLeast_18 (by decide) (fun hf => ?_) (fun hf => ?_)
    · exact zb_X12_findLeast_26 hE hk9 hf
    · refine z_aload_n 0 dX12_findLeast_21 rfl rfl ?_
      refine z_iload_n 2 dX12_findLeast_22 rfl rfl ?_
      obtain ⟨v3, ev3, hf⟩ := ob hf
      refine z_cVv (ci := 12) (T := TX12) (N := 32) (As := [.int l2]) (rest := []) (zm_X12_findLeastOf ev3).2 (zm_X12_findLeastOf ev3).1 (by decide) rfl (Or.inl rfl) mw_42_16 mw_42_17 mw_42_18 mw_1_5 mw_42_19 yk_X12_findLeastOf (by decide) (by decide) rfl (Nat.le_of_ble_eq_true rfl) rfl dX12_findLeast_23 ?_
      exact zb_X12_findLeast_26 hE hk9 hf
set_option maxRecDepth 20000 in
theorem zb_X12_findLeast_9 {N : Nat} {sh : Sh} {r : Dt} {E : EV} (hE : TG E none (sh, r))  : ∀ (n : Nat) (l0 : Nat) (l1 : Int32) (l2 : Int32) (d : Dt), f_X12_findLeast_9 N sh n l0 l1 l2 d = some r → Z E yX12_findLeast cX12_findLeast 3 none 4 (sh, d) 9 [(0, .ref l0), (1, .int l1), (2, .int l2)] [] := by
  intro n
  induction n with
  | zero => intro l0 l1 l2 d hf; cases hf
  | succ n ih => intro l0 l1 l2 d hf; exact zg_X12_findLeast_9 hE ih hf
set_option maxRecDepth 20000 in
theorem zm_X12_findLeast {N : Nat} {sh : Sh} {d : Dt} {l0 : Nat} {l1 : Int32} {r : Dt} (hf : f_X12_findLeast N sh l0 l1 d = some r) : isO sh l0 12 ∧ ∀ (l : Launch) (G : GG), Mt l G yX12_findLeast cX12_findLeast 3 none 4 [.ref l0, .int l1] (sh, d) none (sh, r) := by
  have hf0 := hf
  unfold f_X12_findLeast at hf
  refine ite_d hf (fun hO hf => ?_) (fun _ hf => ?_)
  · refine ⟨hO, fun l G => mt_of (Or.inl (by decide)) (Nat.le_of_ble_eq_true rfl) Le.rf (fun E hE => ?_)⟩
    show Z E yX12_findLeast cX12_findLeast 3 none 4 (sh, d) 0 [(0, .ref l0), (1, .int l1)] []
    refine z_aload_n 0 dX12_findLeast_0 rfl rfl ?_
    refine z_gP (ci := 12) (k := 18) (C := RX12) (T := TX12) (N := 32) rfl inlX12 (by decide) mw_7_7 (fun _ _ _ _ h9 => h9) hf (by decide) rfl dX12_findLeast_1  (fun v1 hf => ?_)
    refine z_iconst 0 0 dX12_findLeast_4 (by decide) ?_
    refine z_iconst 0 0 dX12_findLeast_5 (by decide) ?_
    refine z_sI hf dX12_findLeast_6  (fun d2 hf => ?_)
    refine z_iconst 1 1 dX12_findLeast_7 (by decide) ?_
    refine z_istore_n [(2, .int (1 : Int32)), (0, .ref l0), (1, .int l1)] dX12_findLeast_8 rfl (by decide) rfl ?_
    refine z_lv [(0, .ref l0), (1, .int l1), (2, .int (1 : Int32))] [1, 2, 0] rfl ?_
    exact zb_X12_findLeast_9 hE N _ _ _ _ hf
  · cases hf
set_option maxRecDepth 20000 in
theorem zb_X12_findOdd_118 {N : Nat} {sh : Sh} {r : Dt} {E : EV} (hE : TG E none (sh, r))   {d : Dt} (hf : f_X12_findOdd_118 N sh  d = some r) : Z E yX12_findOdd cX12_findOdd 5 none 2 (sh, d) 118 [] [] := by
  unfold f_X12_findOdd_118 at hf
  cases hf
  exact z_return hE rfl dX12_findOdd_118
set_option maxRecDepth 20000 in
theorem zb_X12_findOdd_112 {N : Nat} {sh : Sh} {k7 : Nat → Int32 → Dt → Option Dt} {r : Dt} {E : EV} (hE : TG E none (sh, r)) (hk7 : ∀ (l0 : Nat) (l1 : Int32) (d : Dt), k7 l0 l1 d = some r → Z E yX12_findOdd cX12_findOdd 5 none 2 (sh, d) 7 [(0, .ref l0), (1, .int l1)] []) {l0 : Nat} {l1 : Int32} {d : Dt} (hf : f_X12_findOdd_112 N sh k7 l0 l1 d = some r) : Z E yX12_findOdd cX12_findOdd 5 none 2 (sh, d) 112 [(0, .ref l0), (1, .int l1)] [] := by
  unfold f_X12_findOdd_112 at hf
  refine z_iinc [(1, .int (l1 + 1)), (0, .ref l0)] 1 (l1 + 1) dX12_findOdd_112 rfl rfl (by decide) rfl ?_
  refine z_goto 7 dX12_findOdd_115 (by decide) ?_
  refine z_lv [(0, .ref l0), (1, .int (l1 + 1))] [1, 0] rfl ?_
  exact hk7 _ _ _ hf
set_option maxRecDepth 20000 in
theorem zb_X12_findOdd_85 {N : Nat} {sh : Sh} {k7 : Nat → Int32 → Dt → Option Dt} {r : Dt} {E : EV} (hE : TG E none (sh, r)) (hk7 : ∀ (l0 : Nat) (l1 : Int32) (d : Dt), k7 l0 l1 d = some r → Z E yX12_findOdd cX12_findOdd 5 none 2 (sh, d) 7 [(0, .ref l0), (1, .int l1)] []) {l0 : Nat} {l1 : Int32} {l2 : Int32} {d : Dt} (hf : f_X12_findOdd_85 N sh k7 l0 l1 l2 d = some r) : Z E yX12_findOdd cX12_findOdd 5 none 2 (sh, d) 85 [(0, .ref l0), (1, .int l1), (2, .int l2)] [] := by
  unfold f_X12_findOdd_85 at hf
  refine z_iload_n 2 dX12_findOdd_85 rfl rfl ?_
  refine z_iconst 2 2 dX12_findOdd_86 (by decide) ?_
  refine z_irem hf dX12_findOdd_87  (fun v11 hf => ?_)
  refine z_iconst 1 1 dX12_findOdd_88 (by decide) ?_
  refine z_icmp_ne 112 hf dX12_findOdd_89 (by decide) (fun hf => ?_) (fun hf => ?_)
  · refine z_lv [(0, .ref l0), (1, .int l1)] [0, 1] rfl ?_
    exact zb_X12_findOdd_112 hE hk7 hf
  · refine z_aload_n 0 dX12_findOdd_92 rfl rfl ?_
    refine z_gP (ci := 12) (k := 15) (C := RX12) (T := TX12) (N := 32) rfl inlX12 (by decide) mw_7_5 (fun _ _ _ _ h9 => h9) hf (by decide) rfl dX12_findOdd_93  (fun v12 hf => ?_)
    refine z_aload_n 0 dX12_findOdd_96 rfl rfl ?_
    refine z_gI (ci := 12) (k := 16) (C := RX12) (T := TX12) (N := 32) rfl inlX12 (by decide) mw_40_8 (fun _ _ _ _ h9 => h9) hf (by decide) rfl dX12_findOdd_97  (fun v13 hf => ?_)
    refine z_iload_n 1 dX12_findOdd_100 rfl rfl ?_
    refine z_sI hf dX12_findOdd_101  (fun d14 hf => ?_)
    refine z_aload_n 0 dX12_findOdd_102 rfl rfl ?_
    refine z_dup dX12_findOdd_103 rfl ?_
    refine z_gI (ci := 12) (k := 16) (C := RX12) (T := TX12) (N := 32) rfl inlX12 (by decide) mw_40_8 (fun _ _ _ _ h9 => h9) hf (by decide) rfl dX12_findOdd_104  (fun v15 hf => ?_)
    refine z_iconst 1 1 dX12_findOdd_107 (by decide) ?_
    refine z_iadd dX12_findOdd_108 ?_
    refine z_pI (ci := 12) (k := 16) (C := RX12) (T := TX12) (N := 32) rfl inlX12 (by decide) mw_40_8 (fun _ _ _ _ h9 => h9) tyX12 tyX12_ok nmX12 rfl hf (Or.inl (by decide)) rfl rfl rfl dX12_findOdd_109  (fun d16 hf => ?_)
    refine z_lv [(0, .ref l0), (1, .int l1)] [0, 1] rfl ?_
    exact zb_X12_findOdd_112 hE hk7 hf
set_option maxRecDepth 20000 in
theorem zb_X12_findOdd_77 {N : Nat} {sh : Sh} {k7 : Nat → Int32 → Dt → Option Dt} {k21 : Nat → Int32 → Int32 → Int32 → Dt → Option Dt} {r : Dt} {E : EV} (hE : TG E none (sh, r)) (hk7 : ∀ (l0 : Nat) (l1 : Int32) (d : Dt), k7 l0 l1 d = some r → Z E yX12_findOdd cX12_findOdd 5 none 2 (sh, d) 7 [(0, .ref l0), (1, .int l1)] []) (hk21 : ∀ (l0 : Nat) (l1 : Int32) (l2 : Int32) (l3 : Int32) (d : Dt), k21 l0 l1 l2 l3 d = some r → Z E yX12_findOdd cX12_findOdd 5 none 2 (sh, d) 21 [(0, .ref l0), (1, .int l1), (2, .int l2), (3, .int l3)] []) {l0 : Nat} {l1 : Int32} {l3 : Int32} {t0 : Int32} {t1 : Int32} {d : Dt} (hf : f_X12_findOdd_77 N sh k7 k21 l0 l1 l3 t0 t1 d = some r) : Z E yX12_findOdd cX12_findOdd 5 none 2 (sh, d) 77 [(0, .ref l0), (1, .int l1), (3, .int l3)] [.int t1, .int t0] := by
  unfold f_X12_findOdd_77 at hf
  refine z_iadd dX12_findOdd_77 ?_
  refine z_istore_n [(2, .int (t0 + t1)), (0, .ref l0), (1, .int l1), (3, .int l3)] dX12_findOdd_78 rfl (by decide) rfl ?_
  refine z_iinc [(3, .int (l3 + 1)), (2, .int (t0 + t1)), (0, .ref l0), (1, .int l1)] 3 (l3 + 1) dX12_findOdd_79 rfl rfl (by decide) rfl ?_
  refine z_goto 21 dX12_findOdd_82 (by decide) ?_
  refine z_lv [(0, .ref l0), (1, .int l1), (2, .int (t0 + t1)), (3, .int (l3 + 1))] [2, 3, 1, 0] rfl ?_
  exact hk21 _ _ _ _ _ hf
set_option maxRecDepth 20000 in
theorem zb_X12_findOdd_67 {N : Nat} {sh : Sh} {k7 : Nat → Int32 → Dt → Option Dt} {k21 : Nat → Int32 → Int32 → Int32 → Dt → Option Dt} {r : Dt} {E : EV} (hE : TG E none (sh, r)) (hk7 : ∀ (l0 : Nat) (l1 : Int32) (d : Dt), k7 l0 l1 d = some r → Z E yX12_findOdd cX12_findOdd 5 none 2 (sh, d) 7 [(0, .ref l0), (1, .int l1)] []) (hk21 : ∀ (l0 : Nat) (l1 : Int32) (l2 : Int32) (l3 : Int32) (d : Dt), k21 l0 l1 l2 l3 d = some r → Z E yX12_findOdd cX12_findOdd 5 none 2 (sh, d) 21 [(0, .ref l0), (1, .int l1), (2, .int l2), (3, .int l3)] []) {l0 : Nat} {l1 : Int32} {l3 : Int32} {t0 : Int32} {d : Dt} (hf : f_X12_findOdd_67 N sh k7 k21 l0 l1 l3 t0 d = some r) : Z E yX12_findOdd cX12_findOdd 5 none 2 (sh, d) 67 [(0, .ref l0), (1, .int l1), (3, .int l3)] [.int t0] := by
  unfold f_X12_findOdd_67 at hf
  refine z_aload_n 0 dX12_findOdd_67 rfl rfl ?_
  refine z_gP (ci := 12) (k := 14) (C := RX12) (T := TX12) (N := 32) rfl inlX12 (by decide) mw_7_4 (fun _ _ _ _ h9 => h9) hf (by decide) rfl dX12_findOdd_68  (fun v17 hf => ?_)
  refine z_iload_n 2 dX12_findOdd_71 rfl rfl ?_
  refine z_aI hf dX12_findOdd_72  (fun v18 hf => ?_)
  refine z_goto 77 dX12_findOdd_73 (by decide) ?_
  exact zb_X12_findOdd_77 hE hk7 hk21 hf
set_option maxRecDepth 20000 in
theorem zg_X12_findOdd_21 {N : Nat} {sh : Sh} {k7 : Nat → Int32 → Dt → Option Dt} {r : Dt} {k21 : Nat → Int32 → Int32 → Int32 → Dt → Option Dt} {E : EV} (hE : TG E none (sh, r)) (hk7 : ∀ (l0 : Nat) (l1 : Int32) (d : Dt), k7 l0 l1 d = some r → Z E yX12_findOdd cX12_findOdd 5 none 2 (sh, d) 7 [(0, .ref l0), (1, .int l1)] []) (hk21 : ∀ (l0 : Nat) (l1 : Int32) (l2 : Int32) (l3 : Int32) (d : Dt), k21 l0 l1 l2 l3 d = some r → Z E yX12_findOdd cX12_findOdd 5 none 2 (sh, d) 21 [(0, .ref l0), (1, .int l1), (2, .int l2), (3, .int l3)] []) {l0 : Nat} {l1 : Int32} {l2 : Int32} {l3 : Int32} {d : Dt} (hf : g_X12_findOdd_21 N sh k7 k21 l0 l1 l2 l3 d = some r) : Z E yX12_findOdd cX12_findOdd 5 none 2 (sh, d) 21 [(0, .ref l0), (1, .int l1), (2, .int l2), (3, .int l3)] [] := by
  unfold g_X12_findOdd_21 at hf
  refine z_iload_n 3 dX12_findOdd_21 rfl rfl ?_
  refine z_aload_n 0 dX12_findOdd_22 rfl rfl ?_
  refine z_gP (ci := 12) (k := 0) (C := RX12) (T := TX12) (N := 32) rfl inlX12 (by decide) mw_6_19 (fun _ _ _ _ h9 => h9) hf (by decide) rfl dX12_findOdd_23  (fun v4 hf => ?_)
  refine z_iconst 1 1 dX12_findOdd_26 (by decide) ?_
  refine z_aI hf dX12_findOdd_27  (fun v5 hf => ?_)
  refine z_icmp_ge 85 hf dX12_findOdd_28 (by decide) (fun hf => ?_) (fun hf => ?_)
  · refine z_lv [(0, .ref l0), (1, .int l1), (2, .int l2)] [0, 1, 2] rfl ?_
    exact zb_X12_findOdd_85 hE hk7 hf
  · refine z_aload_n 0 dX12_findOdd_31 rfl rfl ?_
    refine z_iload_n 3 dX12_findOdd_32 rfl rfl ?_
    obtain ⟨v6, ev6, hf⟩ := ob hf
    refine z_cVi (ci := 12) (T := TX12) (N := 32) (As := [.int l3]) (rest := []) (zm_X12_st ev6).2 (zm_X12_st ev6).1 (by decide) rfl (Or.inl rfl) mw_13_10 mw_13_11 mw_13_12 mw_1_5 mw_13_13 yk_X12_st (by decide) (by decide) rfl (Nat.le_of_ble_eq_true rfl) rfl dX12_findOdd_33 ?_
    refine z_istore [(4, .int v6), (0, .ref l0), (1, .int l1), (2, .int l2), (3, .int l3)] dX12_findOdd_36 (by decide) rfl ?_
    refine z_iload_n 3 dX12_findOdd_38 rfl rfl ?_
    refine z_aload_n 1 dX12_findOdd_39 rfl rfl ?_
    refine z_gP (ci := 12) (k := 0) (C := RX12) (T := TX12) (N := 32) rfl inlX12 (by decide) mw_6_19 (fun _ _ _ _ h9 => h9) hf (by decide) rfl dX12_findOdd_40  (fun v7 hf => ?_)
    refine z_iload 0 dX12_findOdd_43 rfl ?_
    refine z_bipush 7 7 dX12_findOdd_45 (by decide) ?_
    refine z_iadd dX12_findOdd_47 ?_
    refine z_aI hf dX12_findOdd_48  (fun v8 hf => ?_)
    refine z_iload_n 2 dX12_findOdd_49 rfl rfl ?_
    refine z_icmp_eq 67 hf dX12_findOdd_50 (by decide) (fun hf => ?_) (fun hf => ?_)
    · refine z_lv [(0, .ref l0), (1, .int l1), (3, .int l3)] [1, 2, 4] rfl ?_
      exact zb_X12_findOdd_67 hE hk7 hk21 hf
    · refine z_aload_n 1 dX12_findOdd_53 rfl rfl ?_
      refine z_gP (ci := 12) (k := 0) (C := RX12) (T := TX12) (N := 32) rfl inlX12 (by decide) mw_6_19 (fun _ _ _ _ h9 => h9) hf (by decide) rfl dX12_findOdd_54  (fun v9 hf => ?_)
      refine z_iload 0 dX12_findOdd_57 rfl ?_
      refine z_bipush 8 8 dX12_findOdd_59 (by decide) ?_
      refine z_iadd dX12_findOdd_61 ?_
      refine z_aI hf dX12_findOdd_62  (fun v10 hf => ?_)
      refine z_iload_n 2 dX12_findOdd_63 rfl rfl ?_
      refine z_icmp_ne 76 hf dX12_findOdd_64 (by decide) (fun hf => ?_) (fun hf => ?_)
      · refine z_iconst 0 0 dX12_findOdd_76 (by decide) ?_
        refine z_lv [(0, .ref l0), (1, .int l1), (3, .int l3)] [1, 2, 4] rfl ?_
        exact zb_X12_findOdd_77 hE hk7 hk21 hf
      · refine z_lv [(0, .ref l0), (1, .int l1), (3, .int l3)] [1, 2, 4] rfl ?_
        exact zb_X12_findOdd_67 hE hk7 hk21 hf
set_option maxRecDepth 20000 in
theorem zb_X12_findOdd_21 {N : Nat} {sh : Sh} {k7 : Nat → Int32 → Dt → Option Dt} {r : Dt} {E : EV} (hE : TG E none (sh, r)) (hk7 : ∀ (l0 : Nat) (l1 : Int32) (d : Dt), k7 l0 l1 d = some r → Z E yX12_findOdd cX12_findOdd 5 none 2 (sh, d) 7 [(0, .ref l0), (1, .int l1)] []) : ∀ (n : Nat) (l0 : Nat) (l1 : Int32) (l2 : Int32) (l3 : Int32) (d : Dt), f_X12_findOdd_21 N sh k7 n l0 l1 l2 l3 d = some r → Z E yX12_findOdd cX12_findOdd 5 none 2 (sh, d) 21 [(0, .ref l0), (1, .int l1), (2, .int l2), (3, .int l3)] [] := by
  intro n
  induction n with
  | zero => intro l0 l1 l2 l3 d hf; cases hf
  | succ n ih => intro l0 l1 l2 l3 d hf; exact zg_X12_findOdd_21 hE hk7 ih hf
set_option maxRecDepth 20000 in
theorem zg_X12_findOdd_7 {N : Nat} {sh : Sh} {r : Dt} {k7 : Nat → Int32 → Dt → Option Dt} {E : EV} (hE : TG E none (sh, r))  (hk7 : ∀ (l0 : Nat) (l1 : Int32) (d : Dt), k7 l0 l1 d = some r → Z E yX12_findOdd cX12_findOdd 5 none 2 (sh, d) 7 [(0, .ref l0), (1, .int l1)] []) {l0 : Nat} {l1 : Int32} {d : Dt} (hf : g_X12_findOdd_7 N sh k7 l0 l1 d = some r) : Z E yX12_findOdd cX12_findOdd 5 none 2 (sh, d) 7 [(0, .ref l0), (1, .int l1)] [] := by
  unfold g_X12_findOdd_7 at hf
  refine z_iload_n 1 dX12_findOdd_7 rfl rfl ?_
  refine z_aload_n 0 dX12_findOdd_8 rfl rfl ?_
  refine z_gP (ci := 12) (k := 0) (C := RX12) (T := TX12) (N := 32) rfl inlX12 (by decide) mw_6_19 (fun _ _ _ _ h9 => h9) hf (by decide) rfl dX12_findOdd_9  (fun v2 hf => ?_)
  refine z_iconst 0 0 dX12_findOdd_12 (by decide) ?_
  refine z_aI hf dX12_findOdd_13  (fun v3 hf => ?_)
  refine z_icmp_ge 118 hf dX12_findOdd_14 (by decide) (fun hf => ?_) (fun hf => ?_)
  · refine z_lv [] [] rfl ?_
    exact zb_X12_findOdd_118 hE hf
  · refine z_iconst 0 0 dX12_findOdd_17 (by decide) ?_
    refine z_istore_n [(2, .int (0 : Int32)), (0, .ref l0), (1, .int l1)] dX12_findOdd_18 rfl (by decide) rfl ?_
    refine z_iconst 0 0 dX12_findOdd_19 (by decide) ?_
    refine z_istore_n [(3, .int (0 : Int32)), (2, .int (0 : Int32)), (0, .ref l0), (1, .int l1)] dX12_findOdd_20 rfl (by decide) rfl ?_
    refine z_lv [(0, .ref l0), (1, .int l1), (2, .int (0 : Int32)), (3, .int (0 : Int32))] [2, 3, 1, 0] rfl ?_
    exact zb_X12_findOdd_21 hE hk7 N _ _ _ _ _ hf
set_option maxRecDepth 20000 in
theorem zb_X12_findOdd_7 {N : Nat} {sh : Sh} {r : Dt} {E : EV} (hE : TG E none (sh, r))  : ∀ (n : Nat) (l0 : Nat) (l1 : Int32) (d : Dt), f_X12_findOdd_7 N sh n l0 l1 d = some r → Z E yX12_findOdd cX12_findOdd 5 none 2 (sh, d) 7 [(0, .ref l0), (1, .int l1)] [] := by
  intro n
  induction n with
  | zero => intro l0 l1 d hf; cases hf
  | succ n ih => intro l0 l1 d hf; exact zg_X12_findOdd_7 hE ih hf
set_option maxRecDepth 20000 in
theorem zm_X12_findOdd {N : Nat} {sh : Sh} {d : Dt} {l0 : Nat} {r : Dt} (hf : f_X12_findOdd N sh l0 d = some r) : isO sh l0 12 ∧ ∀ (l : Launch) (G : GG), Mt l G yX12_findOdd cX12_findOdd 5 none 2 [.ref l0] (sh, d) none (sh, r) := by
  have hf0 := hf
  unfold f_X12_findOdd at hf
  refine ite_d hf (fun hO hf => ?_) (fun _ hf => ?_)
  · refine ⟨hO, fun l G => mt_of (Or.inl (by decide)) (Nat.le_of_ble_eq_true rfl) Le.rf (fun E hE => ?_)⟩
    show Z E yX12_findOdd cX12_findOdd 5 none 2 (sh, d) 0 [(0, .ref l0)] []
    refine z_aload_n 0 dX12_findOdd_0 rfl rfl ?_
    refine z_iconst 0 0 dX12_findOdd_1 (by decide) ?_
    refine z_pI (ci := 12) (k := 16) (C := RX12) (T := TX12) (N := 32) rfl inlX12 (by decide) mw_40_8 (fun _ _ _ _ h9 => h9) tyX12 tyX12_ok nmX12 rfl hf (Or.inl (by decide)) rfl rfl rfl dX12_findOdd_2  (fun d1 hf => ?_)
    refine z_iconst 0 0 dX12_findOdd_5 (by decide) ?_
    refine z_istore_n [(1, .int (0 : Int32)), (0, .ref l0)] dX12_findOdd_6 rfl (by decide) rfl ?_
    refine z_lv [(0, .ref l0), (1, .int (0 : Int32))] [1, 0] rfl ?_
    exact zb_X12_findOdd_7 hE N _ _ _ hf
  · cases hf
set_option maxRecDepth 20000 in
theorem zb_X12_findings_20 {N : Nat} {sh : Sh} {d : Dt} {r : Int32} {E : EV} (hE : TG E (some (.int r)) (sh, d))  {t0 : Int32} (hf : f_X12_findings_20 N sh t0 d = some r) : Z E yX12_findings cX12_findings 2 (some .int) 2 (sh, d) 20 [] [.int t0] := by
  unfold f_X12_findings_20 at hf
  cases hf
  exact z_ireturn hE rfl dX12_findings_20
set_option maxRecDepth 20000 in
theorem zm_X12_findings {N : Nat} {sh : Sh} {d : Dt} {l0 : Nat} {l1 : Int32} {r : Int32} (hf : f_X12_findings N sh l0 l1 d = some r) : isO sh l0 12 ∧ ∀ (l : Launch) (G : GG), Mt l G yX12_findings cX12_findings 2 (some .int) 2 [.ref l0, .int l1] (sh, d) (some (.int r)) (sh, d) := by
  have hf0 := hf
  unfold f_X12_findings at hf
  refine ite_d hf (fun hO hf => ?_) (fun _ hf => ?_)
  · refine ⟨hO, fun l G => mt_of (Or.inl (by decide)) (Nat.le_of_ble_eq_true rfl) Le.rf (fun E hE => ?_)⟩
    show Z E yX12_findings cX12_findings 2 (some .int) 2 (sh, d) 0 [(0, .ref l0), (1, .int l1)] []
    refine z_iload_n 1 dX12_findings_0 rfl rfl ?_
    refine z_iconst 0 0 dX12_findings_1 (by decide) ?_
    refine z_iconst 4 4 dX12_findings_2 (by decide) ?_
    obtain ⟨v1, ev1, hf⟩ := ob hf
    refine z_cTi (As := [.int l1, .int (0 : Int32), .int (4 : Int32)]) (rest := []) (zm_X12_in ev1) (Or.inl rfl) mw_11_11 mw_11_12 mw_1_5 mw_11_13 yk_X12_in (by decide) (by decide) rfl (Nat.le_of_ble_eq_true rfl) rfl dX12_findings_3 ?_
    refine z_if_eq 18 hf dX12_findings_6 (by decide) (fun hf => ?_) (fun hf => ?_)
    · refine z_bipush (-2) (-2) dX12_findings_18 (by decide) ?_
      refine z_lv [] [] rfl ?_
      exact zb_X12_findings_20 hE hf
    · refine z_aload_n 0 dX12_findings_9 rfl rfl ?_
      refine z_gP (ci := 12) (k := 6) (C := RX12) (T := TX12) (N := 32) rfl inlX12 (by decide) mw_6_21 (fun _ _ _ _ h9 => h9) hf (by decide) rfl dX12_findings_10  (fun v2 hf => ?_)
      refine z_iload_n 1 dX12_findings_13 rfl rfl ?_
      refine z_aI hf dX12_findings_14  (fun v3 hf => ?_)
      refine z_goto 20 dX12_findings_15 (by decide) ?_
      refine z_lv [] [] rfl ?_
      exact zb_X12_findings_20 hE hf
  · cases hf
set_option maxRecDepth 20000 in
theorem zm_X12_isCrossing {N : Nat} {sh : Sh} {d : Dt} {l0 : Nat} {l1 : Int32} {r : Int32} (hf : f_X12_isCrossing N sh l0 l1 d = some r) : isO sh l0 12 ∧ ∀ (l : Launch) (G : GG), Mt l G yX12_isCrossing cX12_isCrossing 2 (some .boolean) 2 [.ref l0, .int l1] (sh, d) (some (.int r)) (sh, d) := by
  have hf0 := hf
  unfold f_X12_isCrossing at hf
  refine ite_d hf (fun hO hf => ?_) (fun _ hf => ?_)
  · refine ⟨hO, fun l G => mt_of (Or.inl (by decide)) (Nat.le_of_ble_eq_true rfl) Le.rf (fun E hE => ?_)⟩
    show Z E yX12_isCrossing cX12_isCrossing 2 (some .boolean) 2 (sh, d) 0 [(0, .ref l0), (1, .int l1)] []
    refine z_iload_n 1 dX12_isCrossing_0 rfl rfl ?_
    refine z_iconst 0 0 dX12_isCrossing_1 (by decide) ?_
    refine z_aload_n 0 dX12_isCrossing_2 rfl rfl ?_
    refine z_gP (ci := 12) (k := 0) (C := RX12) (T := TX12) (N := 32) rfl inlX12 (by decide) mw_6_19 (fun _ _ _ _ h9 => h9) hf (by decide) rfl dX12_isCrossing_3  (fun v1 hf => ?_)
    refine z_iconst 0 0 dX12_isCrossing_6 (by decide) ?_
    refine z_aI hf dX12_isCrossing_7  (fun v2 hf => ?_)
    refine z_iconst 1 1 dX12_isCrossing_8 (by decide) ?_
    refine z_isub dX12_isCrossing_9 ?_
    obtain ⟨v3, ev3, hf⟩ := ob hf
    refine z_cTi (As := [.int l1, .int (0 : Int32), .int (v2 - (1 : Int32))]) (rest := []) (zm_X12_in ev3) (Or.inl rfl) mw_11_11 mw_11_12 mw_1_5 mw_11_13 yk_X12_in (by decide) (by decide) rfl (Nat.le_of_ble_eq_true rfl) rfl dX12_isCrossing_10 ?_
    obtain ⟨v4, ev4, hg⟩ := ob hf
    obtain ⟨rfl, hbv4⟩ := o_bool_spec ev4
    cases hg
    exact z_zreturn hE rfl hbv4 dX12_isCrossing_13
  · cases hf
set_option maxRecDepth 20000 in
theorem zb_X12_gauge_71 {N : Nat} {sh : Sh} {r : Int32 × Dt} {E : EV} (hE : TG E (some (.int r.1)) (sh, r.2))  {l0 : Nat} {l3 : Int32} {t0 : Nat} {t1 : Int32} {t2 : Int32} {d : Dt} (hf : f_X12_gauge_71 N sh l0 l3 t0 t1 t2 d = some r) : Z E yX12_gauge cX12_gauge 4 (some .int) 3 (sh, d) 71 [(0, .ref l0), (3, .int l3)] [.int t2, .int t1, .ref t0] := by
  unfold f_X12_gauge_71 at hf
  refine z_sI hf dX12_gauge_71  (fun d13 hf => ?_)
  refine z_aload_n 0 dX12_gauge_72 rfl rfl ?_
  refine z_gP (ci := 12) (k := 0) (C := RX12) (T := TX12) (N := 32) rfl inlX12 (by decide) mw_6_19 (fun _ _ _ _ h9 => h9) hf (by decide) rfl dX12_gauge_73  (fun v14 hf => ?_)
  refine z_iload_n 1 dX12_gauge_76 rfl rfl ?_
  refine z_iconst 2 2 dX12_gauge_77 (by decide) ?_
  refine z_iadd dX12_gauge_78 ?_
  refine z_iconst (-1) (-1) dX12_gauge_79 (by decide) ?_
  refine z_sI hf dX12_gauge_80  (fun d15 hf => ?_)
  refine z_aload_n 0 dX12_gauge_81 rfl rfl ?_
  refine z_gP (ci := 12) (k := 0) (C := RX12) (T := TX12) (N := 32) rfl inlX12 (by decide) mw_6_19 (fun _ _ _ _ h9 => h9) hf (by decide) rfl dX12_gauge_82  (fun v16 hf => ?_)
  refine z_iconst 2 2 dX12_gauge_85 (by decide) ?_
  refine z_dup2_11 dX12_gauge_86 rfl rfl ?_
  refine z_aI hf dX12_gauge_87  (fun v17 hf => ?_)
  refine z_iconst 1 1 dX12_gauge_88 (by decide) ?_
  refine z_iadd dX12_gauge_89 ?_
  refine z_sI hf dX12_gauge_90  (fun d18 hf => ?_)
  refine z_aload_n 0 dX12_gauge_91 rfl rfl ?_
  refine z_aload_n 0 dX12_gauge_92 rfl rfl ?_
  refine z_gP (ci := 12) (k := 0) (C := RX12) (T := TX12) (N := 32) rfl inlX12 (by decide) mw_6_19 (fun _ _ _ _ h9 => h9) hf (by decide) rfl dX12_gauge_93  (fun v19 hf => ?_)
  refine z_iconst 2 2 dX12_gauge_96 (by decide) ?_
  refine z_aI hf dX12_gauge_97  (fun v20 hf => ?_)
  refine z_iconst 1 1 dX12_gauge_98 (by decide) ?_
  refine z_isub dX12_gauge_99 ?_
  obtain ⟨v21, ev21, hf⟩ := ob hf
  refine z_cVi (ci := 12) (T := TX12) (N := 32) (As := [.int (v20 - (1 : Int32))]) (rest := []) (zm_X12_says ev21).2 (zm_X12_says ev21).1 (by decide) rfl (Or.inl rfl) mw_12_4 mw_12_5 mw_12_6 mw_1_5 mw_12_7 yk_X12_says (by decide) (by decide) rfl (Nat.le_of_ble_eq_true rfl) rfl dX12_gauge_100 ?_
  cases hf
  exact z_ireturn hE rfl dX12_gauge_103
set_option maxRecDepth 20000 in
theorem zm_X12_gauge {N : Nat} {sh : Sh} {d : Dt} {l0 : Nat} {l1 : Int32} {l2 : Int32} {r : Int32 × Dt} (hf : f_X12_gauge N sh l0 l1 l2 d = some r) : isO sh l0 12 ∧ ∀ (l : Launch) (G : GG), Mt l G yX12_gauge cX12_gauge 4 (some .int) 3 [.ref l0, .int l1, .int l2] (sh, d) (some (.int r.1)) (sh, r.2) := by
  have hf0 := hf
  unfold f_X12_gauge at hf
  refine ite_d hf (fun hO hf => ?_) (fun _ hf => ?_)
  · refine ⟨hO, fun l G => mt_of (Or.inl (by decide)) (Nat.le_of_ble_eq_true rfl) Le.rf (fun E hE => ?_)⟩
    show Z E yX12_gauge cX12_gauge 4 (some .int) 3 (sh, d) 0 [(0, .ref l0), (1, .int l1), (2, .int l2)] []
    refine z_aload_n 0 dX12_gauge_0 rfl rfl ?_
    refine z_iload_n 1 dX12_gauge_1 rfl rfl ?_
    obtain ⟨v1, ev1, hf⟩ := ob hf
    refine z_cVi (ci := 12) (T := TX12) (N := 32) (As := [.int l1]) (rest := []) (zm_X12_isCrossing ev1).2 (zm_X12_isCrossing ev1).1 (by decide) rfl (Or.inl rfl) mw_13_6 mw_13_7 mw_13_8 mw_1_5 mw_13_9 yk_X12_isCrossing (by decide) (by decide) rfl (Nat.le_of_ble_eq_true rfl) rfl dX12_gauge_2 ?_
    refine z_if_ne 15 hf dX12_gauge_5 (by decide) (fun hf => ?_) (fun hf => ?_)
    · refine z_aload_n 0 dX12_gauge_15 rfl rfl ?_
      refine z_gP (ci := 12) (k := 0) (C := RX12) (T := TX12) (N := 32) rfl inlX12 (by decide) mw_6_19 (fun _ _ _ _ h9 => h9) hf (by decide) rfl dX12_gauge_16  (fun v2 hf => ?_)
      refine z_iconst 2 2 dX12_gauge_19 (by decide) ?_
      refine z_aI hf dX12_gauge_20  (fun v3 hf => ?_)
      refine z_bipush 20 20 dX12_gauge_21 (by decide) ?_
      refine z_icmp_ne 33 hf dX12_gauge_23 (by decide) (fun hf => ?_) (fun hf => ?_)
      · refine z_aload_n 0 dX12_gauge_33 rfl rfl ?_
        obtain ⟨v4, ev4, hf⟩ := ob hf
        refine z_cVv (ci := 12) (T := TX12) (N := 32) (As := []) (rest := []) (zm_X12_keeps ev4).2 (zm_X12_keeps ev4).1 (by decide) rfl (Or.inl rfl) mw_11_23 mw_12_0 mw_12_1 mw_1_5 mw_12_2 yk_X12_keeps (by decide) (by decide) rfl (Nat.le_of_ble_eq_true rfl) rfl dX12_gauge_34 ?_
        refine z_aload_n 0 dX12_gauge_37 rfl rfl ?_
        refine z_aload_n 0 dX12_gauge_38 rfl rfl ?_
        refine z_gP (ci := 12) (k := 0) (C := RX12) (T := TX12) (N := 32) rfl inlX12 (by decide) mw_6_19 (fun _ _ _ _ h9 => h9) hf (by decide) rfl dX12_gauge_39  (fun v5 hf => ?_)
        refine z_iconst 2 2 dX12_gauge_42 (by decide) ?_
        refine z_aI hf dX12_gauge_43  (fun v6 hf => ?_)
        obtain ⟨v7, ev7, hf⟩ := ob hf
        refine z_cVi (ci := 12) (T := TX12) (N := 32) (As := [.int v6]) (rest := []) (zm_X12_ga ev7).2 (zm_X12_ga ev7).1 (by decide) rfl (Or.inl rfl) mw_20_8 mw_20_9 mw_20_10 mw_1_5 mw_20_11 yk_X12_ga (by decide) (by decide) rfl (Nat.le_of_ble_eq_true rfl) rfl dX12_gauge_44 ?_
        refine z_istore_n [(3, .int v7), (0, .ref l0), (1, .int l1), (2, .int l2)] dX12_gauge_47 rfl (by decide) rfl ?_
        refine z_aload_n 1 dX12_gauge_48 rfl rfl ?_
        refine z_gP (ci := 12) (k := 0) (C := RX12) (T := TX12) (N := 32) rfl inlX12 (by decide) mw_6_19 (fun _ _ _ _ h9 => h9) hf (by decide) rfl dX12_gauge_49  (fun v8 hf => ?_)
        refine z_iload_n 0 dX12_gauge_52 rfl rfl ?_
        refine z_iload_n 2 dX12_gauge_53 rfl rfl ?_
        refine z_sI hf dX12_gauge_54  (fun d9 hf => ?_)
        refine z_aload_n 1 dX12_gauge_55 rfl rfl ?_
        refine z_gP (ci := 12) (k := 0) (C := RX12) (T := TX12) (N := 32) rfl inlX12 (by decide) mw_6_19 (fun _ _ _ _ h9 => h9) hf (by decide) rfl dX12_gauge_56  (fun v10 hf => ?_)
        refine z_iload_n 0 dX12_gauge_59 rfl rfl ?_
        refine z_iconst 1 1 dX12_gauge_60 (by decide) ?_
        refine z_iadd dX12_gauge_61 ?_
        refine z_iload_n 3 dX12_gauge_62 rfl rfl ?_
        refine z_if_eq 70 hf dX12_gauge_63 (by decide) (fun hf => ?_) (fun hf => ?_)
        · refine z_iconst 0 0 dX12_gauge_70 (by decide) ?_
          refine z_lv [(0, .ref l0), (3, .int v7)] [1, 0] rfl ?_
          exact zb_X12_gauge_71 hE hf
        · refine z_iconst 1 1 dX12_gauge_66 (by decide) ?_
          refine z_goto 71 dX12_gauge_67 (by decide) ?_
          refine z_lv [(0, .ref l0), (3, .int v7)] [1, 0] rfl ?_
          exact zb_X12_gauge_71 hE hf
      · refine z_aload_n 0 dX12_gauge_26 rfl rfl ?_
        refine z_bipush (-3) (-3) dX12_gauge_27 (by decide) ?_
        obtain ⟨v11, ev11, hf⟩ := ob hf
        refine z_cVi (ci := 12) (T := TX12) (N := 32) (As := [.int (-3 : Int32)]) (rest := []) (zm_X12_refuses ev11).2 (zm_X12_refuses ev11).1 (by decide) rfl (Or.inl rfl) mw_11_14 mw_11_15 mw_11_16 mw_1_5 mw_11_17 yk_X12_refuses (by decide) (by decide) rfl (Nat.le_of_ble_eq_true rfl) rfl dX12_gauge_29 ?_
        cases hf
        exact z_ireturn hE rfl dX12_gauge_32
    · refine z_aload_n 0 dX12_gauge_8 rfl rfl ?_
      refine z_bipush (-2) (-2) dX12_gauge_9 (by decide) ?_
      obtain ⟨v12, ev12, hf⟩ := ob hf
      refine z_cVi (ci := 12) (T := TX12) (N := 32) (As := [.int (-2 : Int32)]) (rest := []) (zm_X12_refuses ev12).2 (zm_X12_refuses ev12).1 (by decide) rfl (Or.inl rfl) mw_11_14 mw_11_15 mw_11_16 mw_1_5 mw_11_17 yk_X12_refuses (by decide) (by decide) rfl (Nat.le_of_ble_eq_true rfl) rfl dX12_gauge_11 ?_
      cases hf
      exact z_ireturn hE rfl dX12_gauge_14
  · cases hf
set_option maxRecDepth 20000 in
theorem zb_X12_isShutAhead_52 {N : Nat} {sh : Sh} {d : Dt} {r : Int32} {E : EV} (hE : TG E (some (.int r)) (sh, d))  {t0 : Int32} (hf : f_X12_isShutAhead_52 N sh t0 d = some r) : Z E yX12_isShutAhead cX12_isShutAhead 3 (some .boolean) 3 (sh, d) 52 [] [.int t0] := by
  unfold f_X12_isShutAhead_52 at hf
  obtain ⟨v10, ev10, hg⟩ := ob hf
  obtain ⟨rfl, hbv10⟩ := o_bool_spec ev10
  cases hg
  exact z_zreturn hE rfl hbv10 dX12_isShutAhead_52
set_option maxRecDepth 20000 in
theorem zm_X12_isShutAhead {N : Nat} {sh : Sh} {d : Dt} {l0 : Nat} {l1 : Int32} {r : Int32} (hf : f_X12_isShutAhead N sh l0 l1 d = some r) : isO sh l0 12 ∧ ∀ (l : Launch) (G : GG), Mt l G yX12_isShutAhead cX12_isShutAhead 3 (some .boolean) 3 [.ref l0, .int l1] (sh, d) (some (.int r)) (sh, d) := by
  have hf0 := hf
  unfold f_X12_isShutAhead at hf
  refine ite_d hf (fun hO hf => ?_) (fun _ hf => ?_)
  · refine ⟨hO, fun l G => mt_of (Or.inl (by decide)) (Nat.le_of_ble_eq_true rfl) Le.rf (fun E hE => ?_)⟩
    show Z E yX12_isShutAhead cX12_isShutAhead 3 (some .boolean) 3 (sh, d) 0 [(0, .ref l0), (1, .int l1)] []
    refine z_aload_n 0 dX12_isShutAhead_0 rfl rfl ?_
    refine z_gP (ci := 12) (k := 0) (C := RX12) (T := TX12) (N := 32) rfl inlX12 (by decide) mw_6_19 (fun _ _ _ _ h9 => h9) hf (by decide) rfl dX12_isShutAhead_1  (fun v1 hf => ?_)
    refine z_aload_n 0 dX12_isShutAhead_4 rfl rfl ?_
    refine z_iload_n 1 dX12_isShutAhead_5 rfl rfl ?_
    obtain ⟨v2, ev2, hf⟩ := ob hf
    refine z_cVi (ci := 12) (T := TX12) (N := 32) (As := [.int l1]) (rest := [.ref v1]) (zm_X12_pl ev2).2 (zm_X12_pl ev2).1 (by decide) rfl (Or.inl rfl) mw_31_6 mw_31_7 mw_31_8 mw_1_5 mw_31_9 yk_X12_pl (by decide) (by decide) rfl (Nat.le_of_ble_eq_true rfl) rfl dX12_isShutAhead_6 ?_
    refine z_bipush 6 6 dX12_isShutAhead_9 (by decide) ?_
    refine z_iadd dX12_isShutAhead_11 ?_
    refine z_aI hf dX12_isShutAhead_12  (fun v3 hf => ?_)
    refine z_aload_n 0 dX12_isShutAhead_13 rfl rfl ?_
    refine z_gP (ci := 12) (k := 0) (C := RX12) (T := TX12) (N := 32) rfl inlX12 (by decide) mw_6_19 (fun _ _ _ _ h9 => h9) hf (by decide) rfl dX12_isShutAhead_14  (fun v4 hf => ?_)
    refine z_aload_n 0 dX12_isShutAhead_17 rfl rfl ?_
    refine z_iload_n 1 dX12_isShutAhead_18 rfl rfl ?_
    obtain ⟨v5, ev5, hf⟩ := ob hf
    refine z_cVi (ci := 12) (T := TX12) (N := 32) (As := [.int l1]) (rest := [.ref v4, .int v3]) (zm_X12_pl ev5).2 (zm_X12_pl ev5).1 (by decide) rfl (Or.inl rfl) mw_31_6 mw_31_7 mw_31_8 mw_1_5 mw_31_9 yk_X12_pl (by decide) (by decide) rfl (Nat.le_of_ble_eq_true rfl) rfl dX12_isShutAhead_19 ?_
    refine z_bipush 8 8 dX12_isShutAhead_22 (by decide) ?_
    refine z_iadd dX12_isShutAhead_24 ?_
    refine z_aI hf dX12_isShutAhead_25  (fun v6 hf => ?_)
    refine z_iadd dX12_isShutAhead_26 ?_
    refine z_istore_n [(2, .int (v3 + v6)), (0, .ref l0), (1, .int l1)] dX12_isShutAhead_27 rfl (by decide) rfl ?_
    refine z_aload_n 1 dX12_isShutAhead_28 rfl rfl ?_
    refine z_aload_n 1 dX12_isShutAhead_29 rfl rfl ?_
    refine z_gP (ci := 12) (k := 0) (C := RX12) (T := TX12) (N := 32) rfl inlX12 (by decide) mw_6_19 (fun _ _ _ _ h9 => h9) hf (by decide) rfl dX12_isShutAhead_30  (fun v7 hf => ?_)
    refine z_sipush 9642 9642 dX12_isShutAhead_33 (by decide) ?_
    refine z_iconst 3 3 dX12_isShutAhead_36 (by decide) ?_
    refine z_iload_n 0 dX12_isShutAhead_37 rfl rfl ?_
    refine z_imul dX12_isShutAhead_38 ?_
    refine z_iadd dX12_isShutAhead_39 ?_
    refine z_aI hf dX12_isShutAhead_40  (fun v8 hf => ?_)
    obtain ⟨v9, ev9, hf⟩ := ob hf
    refine z_cVi (ci := 12) (T := TX12) (N := 32) (As := [.int v8]) (rest := []) (zm_X12_isOpen ev9).2 (zm_X12_isOpen ev9).1 (by decide) rfl (Or.inl rfl) mw_18_4 mw_18_5 mw_18_6 mw_1_5 mw_18_7 yk_X12_isOpen (by decide) (by decide) rfl (Nat.le_of_ble_eq_true rfl) rfl dX12_isShutAhead_41 ?_
    refine z_if_ne 51 hf dX12_isShutAhead_44 (by decide) (fun hf => ?_) (fun hf => ?_)
    · refine z_iconst 0 0 dX12_isShutAhead_51 (by decide) ?_
      refine z_lv [] [] rfl ?_
      exact zb_X12_isShutAhead_52 hE hf
    · refine z_iconst 1 1 dX12_isShutAhead_47 (by decide) ?_
      refine z_goto 52 dX12_isShutAhead_48 (by decide) ?_
      refine z_lv [] [] rfl ?_
      exact zb_X12_isShutAhead_52 hE hf
  · cases hf
set_option maxRecDepth 20000 in
theorem zb_X12_goesOn_280 {N : Nat} {sh : Sh} {r : Dt} {E : EV} (hE : TG E none (sh, r))  {l0 : Nat} {l2 : Int32} {t0 : Nat} {t1 : Int32} {t2 : Int32} {t3 : Int32} {d : Dt} (hf : f_X12_goesOn_280 N sh l0 l2 t0 t1 t2 t3 d = some r) : Z E yX12_goesOn cX12_goesOn 7 none 6 (sh, d) 280 [(0, .ref l0), (2, .int l2)] [.int t3, .int t2, .int t1, .ref t0] := by
  unfold f_X12_goesOn_280 at hf
  refine z_iadd dX12_goesOn_280 ?_
  refine z_sI hf dX12_goesOn_281  (fun d44 hf => ?_)
  refine z_aload_n 0 dX12_goesOn_282 rfl rfl ?_
  refine z_gP (ci := 12) (k := 0) (C := RX12) (T := TX12) (N := 32) rfl inlX12 (by decide) mw_6_19 (fun _ _ _ _ h9 => h9) hf (by decide) rfl dX12_goesOn_283  (fun v45 hf => ?_)
  refine z_iload_n 1 dX12_goesOn_286 rfl rfl ?_
  refine z_bipush 8 8 dX12_goesOn_287 (by decide) ?_
  refine z_iadd dX12_goesOn_289 ?_
  refine z_dup2_11 dX12_goesOn_290 rfl rfl ?_
  refine z_aI hf dX12_goesOn_291  (fun v46 hf => ?_)
  refine z_iconst 1 1 dX12_goesOn_292 (by decide) ?_
  refine z_iadd dX12_goesOn_293 ?_
  refine z_sI hf dX12_goesOn_294  (fun d47 hf => ?_)
  cases hf
  exact z_return hE rfl dX12_goesOn_295
set_option maxRecDepth 20000 in
theorem zb_X12_goesOn_243 {N : Nat} {sh : Sh} {r : Dt} {E : EV} (hE : TG E none (sh, r))  {l0 : Nat} {l2 : Int32} {t0 : Nat} {t1 : Int32} {t2 : Int32} {t3 : Int32} {d : Dt} (hf : f_X12_goesOn_243 N sh l0 l2 t0 t1 t2 t3 d = some r) : Z E yX12_goesOn cX12_goesOn 7 none 6 (sh, d) 243 [(0, .ref l0), (2, .int l2)] [.int t3, .int t2, .int t1, .ref t0] := by
  unfold f_X12_goesOn_243 at hf
  refine z_iadd dX12_goesOn_243 ?_
  refine z_sI hf dX12_goesOn_244  (fun d34 hf => ?_)
  refine z_aload_n 0 dX12_goesOn_245 rfl rfl ?_
  refine z_gP (ci := 12) (k := 0) (C := RX12) (T := TX12) (N := 32) rfl inlX12 (by decide) mw_6_19 (fun _ _ _ _ h9 => h9) hf (by decide) rfl dX12_goesOn_246  (fun v35 hf => ?_)
  refine z_iload_n 1 dX12_goesOn_249 rfl rfl ?_
  refine z_bipush 12 12 dX12_goesOn_250 (by decide) ?_
  refine z_iadd dX12_goesOn_252 ?_
  refine z_dup2_11 dX12_goesOn_253 rfl rfl ?_
  refine z_aI hf dX12_goesOn_254  (fun v36 hf => ?_)
  refine z_aload_n 0 dX12_goesOn_255 rfl rfl ?_
  refine z_gP (ci := 12) (k := 0) (C := RX12) (T := TX12) (N := 32) rfl inlX12 (by decide) mw_6_19 (fun _ _ _ _ h9 => h9) hf (by decide) rfl dX12_goesOn_256  (fun v37 hf => ?_)
  refine z_iload_n 1 dX12_goesOn_259 rfl rfl ?_
  refine z_bipush 9 9 dX12_goesOn_260 (by decide) ?_
  refine z_iadd dX12_goesOn_262 ?_
  refine z_aI hf dX12_goesOn_263  (fun v38 hf => ?_)
  refine z_aload_n 0 dX12_goesOn_264 rfl rfl ?_
  refine z_gP (ci := 12) (k := 0) (C := RX12) (T := TX12) (N := 32) rfl inlX12 (by decide) mw_6_19 (fun _ _ _ _ h9 => h9) hf (by decide) rfl dX12_goesOn_265  (fun v39 hf => ?_)
  refine z_iload_n 1 dX12_goesOn_268 rfl rfl ?_
  refine z_iconst 1 1 dX12_goesOn_269 (by decide) ?_
  refine z_iadd dX12_goesOn_270 ?_
  refine z_aI hf dX12_goesOn_271  (fun v40 hf => ?_)
  refine z_icmp_le 279 hf dX12_goesOn_272 (by decide) (fun hf => ?_) (fun hf => ?_)
  · refine z_iconst 0 0 dX12_goesOn_279 (by decide) ?_
    exact zb_X12_goesOn_280 hE hf
  · refine z_iconst 1 1 dX12_goesOn_275 (by decide) ?_
    refine z_goto 280 dX12_goesOn_276 (by decide) ?_
    exact zb_X12_goesOn_280 hE hf
set_option maxRecDepth 20000 in
theorem zb_X12_goesOn_218 {N : Nat} {sh : Sh} {r : Dt} {E : EV} (hE : TG E none (sh, r))  {l0 : Nat} {l2 : Int32} {l5 : Int32} {l6 : Int32} {d : Dt} (hf : f_X12_goesOn_218 N sh l0 l2 l5 l6 d = some r) : Z E yX12_goesOn cX12_goesOn 7 none 6 (sh, d) 218 [(0, .ref l0), (2, .int l2), (5, .int l5), (6, .int l6)] [] := by
  unfold f_X12_goesOn_218 at hf
  refine z_aload_n 0 dX12_goesOn_218 rfl rfl ?_
  refine z_gP (ci := 12) (k := 0) (C := RX12) (T := TX12) (N := 32) rfl inlX12 (by decide) mw_6_19 (fun _ _ _ _ h9 => h9) hf (by decide) rfl dX12_goesOn_219  (fun v24 hf => ?_)
  refine z_iload_n 1 dX12_goesOn_222 rfl rfl ?_
  refine z_bipush 9 9 dX12_goesOn_223 (by decide) ?_
  refine z_iadd dX12_goesOn_225 ?_
  refine z_dup2_11 dX12_goesOn_226 rfl rfl ?_
  refine z_aI hf dX12_goesOn_227  (fun v25 hf => ?_)
  refine z_iload 2 dX12_goesOn_228 rfl ?_
  refine z_if_le 241 hf dX12_goesOn_230 (by decide) (fun hf => ?_) (fun hf => ?_)
  · refine z_iload 3 dX12_goesOn_241 rfl ?_
    refine z_lv [(0, .ref l0), (2, .int l2)] [0, 1] rfl ?_
    exact zb_X12_goesOn_243 hE hf
  · refine z_iload 2 dX12_goesOn_233 rfl ?_
    refine z_iload 3 dX12_goesOn_235 rfl ?_
    refine z_imul dX12_goesOn_237 ?_
    refine z_goto 243 dX12_goesOn_238 (by decide) ?_
    refine z_lv [(0, .ref l0), (2, .int l2)] [0, 1] rfl ?_
    exact zb_X12_goesOn_243 hE hf
set_option maxRecDepth 20000 in
theorem zb_X12_goesOn_216 {N : Nat} {sh : Sh} {r : Dt} {E : EV} (hE : TG E none (sh, r))  {l0 : Nat} {l2 : Int32} {l5 : Int32} {l6 : Int32} {t0 : Nat} {t1 : Int32} {t2 : Int32} {t3 : Int32} {d : Dt} (hf : f_X12_goesOn_216 N sh l0 l2 l5 l6 t0 t1 t2 t3 d = some r) : Z E yX12_goesOn cX12_goesOn 7 none 6 (sh, d) 216 [(0, .ref l0), (2, .int l2), (5, .int l5), (6, .int l6)] [.int t3, .int t2, .int t1, .ref t0] := by
  unfold f_X12_goesOn_216 at hf
  refine z_iadd dX12_goesOn_216 ?_
  refine z_sI hf dX12_goesOn_217  (fun d48 hf => ?_)
  exact zb_X12_goesOn_218 hE hf
set_option maxRecDepth 20000 in
theorem zb_X12_goesOn_194 {N : Nat} {sh : Sh} {r : Dt} {E : EV} (hE : TG E none (sh, r))  {l0 : Nat} {l2 : Int32} {l5 : Int32} {l6 : Int32} {t0 : Nat} {t1 : Int32} {t2 : Int32} {d : Dt} (hf : f_X12_goesOn_194 N sh l0 l2 l5 l6 t0 t1 t2 d = some r) : Z E yX12_goesOn cX12_goesOn 7 none 6 (sh, d) 194 [(0, .ref l0), (2, .int l2), (5, .int l5), (6, .int l6)] [.int t2, .int t1, .ref t0] := by
  unfold f_X12_goesOn_194 at hf
  refine z_sI hf dX12_goesOn_194  (fun d41 hf => ?_)
  refine z_aload_n 0 dX12_goesOn_195 rfl rfl ?_
  refine z_gP (ci := 12) (k := 0) (C := RX12) (T := TX12) (N := 32) rfl inlX12 (by decide) mw_6_19 (fun _ _ _ _ h9 => h9) hf (by decide) rfl dX12_goesOn_196  (fun v42 hf => ?_)
  refine z_iload_n 1 dX12_goesOn_199 rfl rfl ?_
  refine z_bipush 11 11 dX12_goesOn_200 (by decide) ?_
  refine z_iadd dX12_goesOn_202 ?_
  refine z_dup2_11 dX12_goesOn_203 rfl rfl ?_
  refine z_aI hf dX12_goesOn_204  (fun v43 hf => ?_)
  refine z_iload 2 dX12_goesOn_205 rfl ?_
  refine z_iconst 1 1 dX12_goesOn_207 (by decide) ?_
  refine z_icmp_le 215 hf dX12_goesOn_208 (by decide) (fun hf => ?_) (fun hf => ?_)
  · refine z_iconst 0 0 dX12_goesOn_215 (by decide) ?_
    exact zb_X12_goesOn_216 hE hf
  · refine z_iconst 1 1 dX12_goesOn_211 (by decide) ?_
    refine z_goto 216 dX12_goesOn_212 (by decide) ?_
    exact zb_X12_goesOn_216 hE hf
set_option maxRecDepth 20000 in
theorem zb_X12_goesOn_150 {N : Nat} {sh : Sh} {r : Dt} {E : EV} (hE : TG E none (sh, r))  {l0 : Nat} {l2 : Int32} {l4 : Int32} {l5 : Int32} {l6 : Int32} {t0 : Nat} {t1 : Int32} {t2 : Int32} {t3 : Int32} {d : Dt} (hf : f_X12_goesOn_150 N sh l0 l2 l4 l5 l6 t0 t1 t2 t3 d = some r) : Z E yX12_goesOn cX12_goesOn 7 none 6 (sh, d) 150 [(0, .ref l0), (2, .int l2), (4, .int l4), (5, .int l5), (6, .int l6)] [.int t3, .int t2, .int t1, .ref t0] := by
  unfold f_X12_goesOn_150 at hf
  refine z_iadd dX12_goesOn_150 ?_
  refine z_sI hf dX12_goesOn_151  (fun d26 hf => ?_)
  refine z_aload_n 0 dX12_goesOn_152 rfl rfl ?_
  refine z_gP (ci := 12) (k := 0) (C := RX12) (T := TX12) (N := 32) rfl inlX12 (by decide) mw_6_19 (fun _ _ _ _ h9 => h9) hf (by decide) rfl dX12_goesOn_153  (fun v27 hf => ?_)
  refine z_iload 2 dX12_goesOn_156 rfl ?_
  refine z_iconst 0 0 dX12_goesOn_158 (by decide) ?_
  refine z_iadd dX12_goesOn_159 ?_
  refine z_aload_n 0 dX12_goesOn_160 rfl rfl ?_
  refine z_gP (ci := 12) (k := 0) (C := RX12) (T := TX12) (N := 32) rfl inlX12 (by decide) mw_6_19 (fun _ _ _ _ h9 => h9) hf (by decide) rfl dX12_goesOn_161  (fun v28 hf => ?_)
  refine z_iload 2 dX12_goesOn_164 rfl ?_
  refine z_iconst 2 2 dX12_goesOn_166 (by decide) ?_
  refine z_iadd dX12_goesOn_167 ?_
  refine z_aI hf dX12_goesOn_168  (fun v29 hf => ?_)
  refine z_aload_n 0 dX12_goesOn_169 rfl rfl ?_
  refine z_gP (ci := 12) (k := 0) (C := RX12) (T := TX12) (N := 32) rfl inlX12 (by decide) mw_6_19 (fun _ _ _ _ h9 => h9) hf (by decide) rfl dX12_goesOn_170  (fun v30 hf => ?_)
  refine z_iload 2 dX12_goesOn_173 rfl ?_
  refine z_iconst 3 3 dX12_goesOn_175 (by decide) ?_
  refine z_iadd dX12_goesOn_176 ?_
  refine z_aI hf dX12_goesOn_177  (fun v31 hf => ?_)
  refine z_icmp_lt 185 hf dX12_goesOn_178 (by decide) (fun hf => ?_) (fun hf => ?_)
  · refine z_aload_n 0 dX12_goesOn_185 rfl rfl ?_
    refine z_gP (ci := 12) (k := 0) (C := RX12) (T := TX12) (N := 32) rfl inlX12 (by decide) mw_6_19 (fun _ _ _ _ h9 => h9) hf (by decide) rfl dX12_goesOn_186  (fun v32 hf => ?_)
    refine z_iload 2 dX12_goesOn_189 rfl ?_
    refine z_iconst 0 0 dX12_goesOn_191 (by decide) ?_
    refine z_iadd dX12_goesOn_192 ?_
    refine z_aI hf dX12_goesOn_193  (fun v33 hf => ?_)
    refine z_lv [(0, .ref l0), (2, .int l2), (5, .int l5), (6, .int l6)] [0, 1, 3, 4] rfl ?_
    exact zb_X12_goesOn_194 hE hf
  · refine z_iconst 0 0 dX12_goesOn_181 (by decide) ?_
    refine z_goto 194 dX12_goesOn_182 (by decide) ?_
    refine z_lv [(0, .ref l0), (2, .int l2), (5, .int l5), (6, .int l6)] [0, 1, 3, 4] rfl ?_
    exact zb_X12_goesOn_194 hE hf
set_option maxRecDepth 20000 in
theorem zb_X12_goesOn_109 {N : Nat} {sh : Sh} {r : Dt} {E : EV} (hE : TG E none (sh, r))  {l0 : Nat} {l2 : Int32} {l4 : Int32} {l5 : Int32} {l6 : Int32} {d : Dt} (hf : f_X12_goesOn_109 N sh l0 l2 l4 l5 l6 d = some r) : Z E yX12_goesOn cX12_goesOn 7 none 6 (sh, d) 109 [(0, .ref l0), (2, .int l2), (4, .int l4), (5, .int l5), (6, .int l6)] [] := by
  unfold f_X12_goesOn_109 at hf
  refine z_iload 3 dX12_goesOn_109 rfl ?_
  refine z_if_le 218 hf dX12_goesOn_111 (by decide) (fun hf => ?_) (fun hf => ?_)
  · refine z_lv [(0, .ref l0), (2, .int l2), (5, .int l5), (6, .int l6)] [0, 1, 3, 4] rfl ?_
    exact zb_X12_goesOn_218 hE hf
  · refine z_aload_n 0 dX12_goesOn_114 rfl rfl ?_
    refine z_gP (ci := 12) (k := 0) (C := RX12) (T := TX12) (N := 32) rfl inlX12 (by decide) mw_6_19 (fun _ _ _ _ h9 => h9) hf (by decide) rfl dX12_goesOn_115  (fun v18 hf => ?_)
    refine z_iload 2 dX12_goesOn_118 rfl ?_
    refine z_iconst 2 2 dX12_goesOn_120 (by decide) ?_
    refine z_iadd dX12_goesOn_121 ?_
    refine z_dup2_11 dX12_goesOn_122 rfl rfl ?_
    refine z_aI hf dX12_goesOn_123  (fun v19 hf => ?_)
    refine z_aload_n 0 dX12_goesOn_124 rfl rfl ?_
    refine z_gP (ci := 12) (k := 0) (C := RX12) (T := TX12) (N := 32) rfl inlX12 (by decide) mw_6_19 (fun _ _ _ _ h9 => h9) hf (by decide) rfl dX12_goesOn_125  (fun v20 hf => ?_)
    refine z_iload 2 dX12_goesOn_128 rfl ?_
    refine z_iconst 2 2 dX12_goesOn_130 (by decide) ?_
    refine z_iadd dX12_goesOn_131 ?_
    refine z_aI hf dX12_goesOn_132  (fun v21 hf => ?_)
    refine z_aload_n 0 dX12_goesOn_133 rfl rfl ?_
    refine z_gP (ci := 12) (k := 0) (C := RX12) (T := TX12) (N := 32) rfl inlX12 (by decide) mw_6_19 (fun _ _ _ _ h9 => h9) hf (by decide) rfl dX12_goesOn_134  (fun v22 hf => ?_)
    refine z_iload 2 dX12_goesOn_137 rfl ?_
    refine z_iconst 3 3 dX12_goesOn_139 (by decide) ?_
    refine z_iadd dX12_goesOn_140 ?_
    refine z_aI hf dX12_goesOn_141  (fun v23 hf => ?_)
    refine z_icmp_ge 149 hf dX12_goesOn_142 (by decide) (fun hf => ?_) (fun hf => ?_)
    · refine z_iconst 0 0 dX12_goesOn_149 (by decide) ?_
      exact zb_X12_goesOn_150 hE hf
    · refine z_iconst 1 1 dX12_goesOn_145 (by decide) ?_
      refine z_goto 150 dX12_goesOn_146 (by decide) ?_
      exact zb_X12_goesOn_150 hE hf
set_option maxRecDepth 20000 in
theorem zb_X12_goesOn_79 {N : Nat} {sh : Sh} {r : Dt} {E : EV} (hE : TG E none (sh, r))  {l0 : Nat} {l1 : Int32} {l2 : Int32} {l4 : Int32} {t0 : Int32} {d : Dt} (hf : f_X12_goesOn_79 N sh l0 l1 l2 l4 t0 d = some r) : Z E yX12_goesOn cX12_goesOn 7 none 6 (sh, d) 79 [(0, .ref l0), (1, .int l1), (2, .int l2), (4, .int l4)] [.int t0] := by
  unfold f_X12_goesOn_79 at hf
  refine z_istore [(5, .int t0), (0, .ref l0), (1, .int l1), (2, .int l2), (4, .int l4)] dX12_goesOn_79 (by decide) rfl ?_
  refine z_aload_n 1 dX12_goesOn_81 rfl rfl ?_
  refine z_iload_n 2 dX12_goesOn_82 rfl rfl ?_
  refine z_aload_n 1 dX12_goesOn_83 rfl rfl ?_
  refine z_gP (ci := 12) (k := 0) (C := RX12) (T := TX12) (N := 32) rfl inlX12 (by decide) mw_6_19 (fun _ _ _ _ h9 => h9) hf (by decide) rfl dX12_goesOn_84  (fun v14 hf => ?_)
  refine z_iload 4 dX12_goesOn_87 rfl ?_
  refine z_bipush 6 6 dX12_goesOn_89 (by decide) ?_
  refine z_iadd dX12_goesOn_91 ?_
  refine z_aI hf dX12_goesOn_92  (fun v15 hf => ?_)
  obtain ⟨v16, ev16, hf⟩ := ob hf
  refine z_cVi (ci := 12) (T := TX12) (N := 32) (As := [.int l1, .int v15]) (rest := []) (zm_X12_takes ev16).2 (zm_X12_takes ev16).1 (by decide) rfl (Or.inl rfl) mw_38_7 mw_38_8 mw_38_9 mw_1_5 mw_38_10 yk_X12_takes (by decide) (by decide) rfl (Nat.le_of_ble_eq_true rfl) rfl dX12_goesOn_93 ?_
  refine z_istore [(6, .int v16.1), (5, .int t0), (0, .ref l0), (1, .int l1), (2, .int l2), (4, .int l4)] dX12_goesOn_96 (by decide) rfl ?_
  refine z_iload 1 dX12_goesOn_98 rfl ?_
  refine z_if_ne 109 hf dX12_goesOn_100 (by decide) (fun hf => ?_) (fun hf => ?_)
  · refine z_lv [(0, .ref l0), (2, .int l2), (4, .int l4), (5, .int t0), (6, .int v16.1)] [2, 4, 5, 1, 0] rfl ?_
    exact zb_X12_goesOn_109 hE hf
  · refine z_aload_n 2 dX12_goesOn_103 rfl rfl ?_
    refine z_bipush (-9) (-9) dX12_goesOn_104 (by decide) ?_
    obtain ⟨v17, ev17, hf⟩ := ob hf
    refine z_cVv (ci := 12) (T := TX12) (N := 32) (As := [.int (-9 : Int32)]) (rest := []) (zm_X12_finds ev17).2 (zm_X12_finds ev17).1 (by decide) rfl (Or.inl rfl) mw_11_19 mw_11_20 mw_11_21 mw_1_5 mw_11_22 yk_X12_finds (by decide) (by decide) rfl (Nat.le_of_ble_eq_true rfl) rfl dX12_goesOn_106 ?_
    refine z_lv [(0, .ref l0), (2, .int l2), (4, .int l4), (5, .int t0), (6, .int v16.1)] [2, 4, 5, 1, 0] rfl ?_
    exact zb_X12_goesOn_109 hE hf
set_option maxRecDepth 20000 in
theorem zm_X12_goesOn {N : Nat} {sh : Sh} {d : Dt} {l0 : Nat} {l1 : Int32} {r : Dt} (hf : f_X12_goesOn N sh l0 l1 d = some r) : isO sh l0 12 ∧ ∀ (l : Launch) (G : GG), Mt l G yX12_goesOn cX12_goesOn 7 none 6 [.ref l0, .int l1] (sh, d) none (sh, r) := by
  have hf0 := hf
  unfold f_X12_goesOn at hf
  refine ite_d hf (fun hO hf => ?_) (fun _ hf => ?_)
  · refine ⟨hO, fun l G => mt_of (Or.inl (by decide)) (Nat.le_of_ble_eq_true rfl) Le.rf (fun E hE => ?_)⟩
    show Z E yX12_goesOn cX12_goesOn 7 none 6 (sh, d) 0 [(0, .ref l0), (1, .int l1)] []
    refine z_aload_n 0 dX12_goesOn_0 rfl rfl ?_
    refine z_iload_n 1 dX12_goesOn_1 rfl rfl ?_
    obtain ⟨v1, ev1, hf⟩ := ob hf
    refine z_cVi (ci := 12) (T := TX12) (N := 32) (As := [.int l1]) (rest := []) (zm_X12_pl ev1).2 (zm_X12_pl ev1).1 (by decide) rfl (Or.inl rfl) mw_31_6 mw_31_7 mw_31_8 mw_1_5 mw_31_9 yk_X12_pl (by decide) (by decide) rfl (Nat.le_of_ble_eq_true rfl) rfl dX12_goesOn_2 ?_
    refine z_istore_n [(2, .int v1), (0, .ref l0), (1, .int l1)] dX12_goesOn_5 rfl (by decide) rfl ?_
    refine z_aload_n 1 dX12_goesOn_6 rfl rfl ?_
    refine z_gP (ci := 12) (k := 0) (C := RX12) (T := TX12) (N := 32) rfl inlX12 (by decide) mw_6_19 (fun _ _ _ _ h9 => h9) hf (by decide) rfl dX12_goesOn_7  (fun v2 hf => ?_)
    refine z_iload_n 0 dX12_goesOn_10 rfl rfl ?_
    refine z_bipush 6 6 dX12_goesOn_11 (by decide) ?_
    refine z_iadd dX12_goesOn_13 ?_
    refine z_aI hf dX12_goesOn_14  (fun v3 hf => ?_)
    refine z_aload_n 1 dX12_goesOn_15 rfl rfl ?_
    refine z_gP (ci := 12) (k := 0) (C := RX12) (T := TX12) (N := 32) rfl inlX12 (by decide) mw_6_19 (fun _ _ _ _ h9 => h9) hf (by decide) rfl dX12_goesOn_16  (fun v4 hf => ?_)
    refine z_iload_n 0 dX12_goesOn_19 rfl rfl ?_
    refine z_bipush 8 8 dX12_goesOn_20 (by decide) ?_
    refine z_iadd dX12_goesOn_22 ?_
    refine z_aI hf dX12_goesOn_23  (fun v5 hf => ?_)
    refine z_iadd dX12_goesOn_24 ?_
    refine z_istore_n [(3, .int (v3 + v5)), (2, .int v1), (0, .ref l0), (1, .int l1)] dX12_goesOn_25 rfl (by decide) rfl ?_
    refine z_aload_n 2 dX12_goesOn_26 rfl rfl ?_
    refine z_aload_n 2 dX12_goesOn_27 rfl rfl ?_
    refine z_gP (ci := 12) (k := 0) (C := RX12) (T := TX12) (N := 32) rfl inlX12 (by decide) mw_6_19 (fun _ _ _ _ h9 => h9) hf (by decide) rfl dX12_goesOn_28  (fun v6 hf => ?_)
    refine z_sipush 9642 9642 dX12_goesOn_31 (by decide) ?_
    refine z_iconst 3 3 dX12_goesOn_34 (by decide) ?_
    refine z_iload_n 0 dX12_goesOn_35 rfl rfl ?_
    refine z_imul dX12_goesOn_36 ?_
    refine z_iadd dX12_goesOn_37 ?_
    refine z_aI hf dX12_goesOn_38  (fun v7 hf => ?_)
    obtain ⟨v8, ev8, hf⟩ := ob hf
    refine z_cVi (ci := 12) (T := TX12) (N := 32) (As := [.int v7]) (rest := []) (zm_X12_st ev8).2 (zm_X12_st ev8).1 (by decide) rfl (Or.inl rfl) mw_13_10 mw_13_11 mw_13_12 mw_1_5 mw_13_13 yk_X12_st (by decide) (by decide) rfl (Nat.le_of_ble_eq_true rfl) rfl dX12_goesOn_39 ?_
    refine z_istore [(4, .int v8), (3, .int (v3 + v5)), (2, .int v1), (0, .ref l0), (1, .int l1)] dX12_goesOn_42 (by decide) rfl ?_
    refine z_aload_n 3 dX12_goesOn_44 rfl rfl ?_
    refine z_gP (ci := 12) (k := 0) (C := RX12) (T := TX12) (N := 32) rfl inlX12 (by decide) mw_6_19 (fun _ _ _ _ h9 => h9) hf (by decide) rfl dX12_goesOn_45  (fun v9 hf => ?_)
    refine z_sipush 9642 9642 dX12_goesOn_48 (by decide) ?_
    refine z_iconst 3 3 dX12_goesOn_51 (by decide) ?_
    refine z_iload_n 1 dX12_goesOn_52 rfl rfl ?_
    refine z_imul dX12_goesOn_53 ?_
    refine z_iadd dX12_goesOn_54 ?_
    refine z_iconst 2 2 dX12_goesOn_55 (by decide) ?_
    refine z_iadd dX12_goesOn_56 ?_
    refine z_aI hf dX12_goesOn_57  (fun v10 hf => ?_)
    refine z_if_ne 65 hf dX12_goesOn_58 (by decide) (fun hf => ?_) (fun hf => ?_)
    · refine z_aload_n 3 dX12_goesOn_65 rfl rfl ?_
      refine z_iload_n 4 dX12_goesOn_66 rfl rfl ?_
      refine z_aload_n 3 dX12_goesOn_67 rfl rfl ?_
      refine z_gP (ci := 12) (k := 0) (C := RX12) (T := TX12) (N := 32) rfl inlX12 (by decide) mw_6_19 (fun _ _ _ _ h9 => h9) hf (by decide) rfl dX12_goesOn_68  (fun v11 hf => ?_)
      refine z_iload 0 dX12_goesOn_71 rfl ?_
      refine z_iconst 0 0 dX12_goesOn_73 (by decide) ?_
      refine z_iadd dX12_goesOn_74 ?_
      refine z_aI hf dX12_goesOn_75  (fun v12 hf => ?_)
      obtain ⟨v13, ev13, hf⟩ := ob hf
      refine z_cVi (ci := 12) (T := TX12) (N := 32) (As := [.int l1, .int v12]) (rest := []) (zm_X12_passes ev13).2 (zm_X12_passes ev13).1 (by decide) rfl (Or.inl rfl) mw_38_16 mw_38_17 mw_38_18 mw_1_5 mw_38_19 yk_X12_passes (by decide) (by decide) rfl (Nat.le_of_ble_eq_true rfl) rfl dX12_goesOn_76 ?_
      refine z_lv [(0, .ref l0), (1, .int l1), (2, .int v1), (4, .int v8)] [3, 4, 2, 0] rfl ?_
      exact zb_X12_goesOn_79 hE hf
    · refine z_iconst (-1) (-1) dX12_goesOn_61 (by decide) ?_
      refine z_goto 79 dX12_goesOn_62 (by decide) ?_
      refine z_lv [(0, .ref l0), (1, .int l1), (2, .int v1), (4, .int v8)] [3, 4, 2, 0] rfl ?_
      exact zb_X12_goesOn_79 hE hf
  · cases hf
set_option maxRecDepth 20000 in
theorem zb_X12_go_18 {N : Nat} {sh : Sh} {r : Int32 × Dt} {E : EV} (hE : TG E (some (.int r.1)) (sh, r.2))  {l0 : Nat} {d : Dt} (hf : f_X12_go_18 N sh l0 d = some r) : Z E yX12_go cX12_go 6 (some .int) 7 (sh, d) 18 [(0, .ref l0)] [] := by
  unfold f_X12_go_18 at hf
  refine z_aload_n 0 dX12_go_18 rfl rfl ?_
  refine z_bipush (-2) (-2) dX12_go_19 (by decide) ?_
  obtain ⟨v12, ev12, hf⟩ := ob hf
  refine z_cVi (ci := 12) (T := TX12) (N := 32) (As := [.int (-2 : Int32)]) (rest := []) (zm_X12_refuses ev12).2 (zm_X12_refuses ev12).1 (by decide) rfl (Or.inl rfl) mw_11_14 mw_11_15 mw_11_16 mw_1_5 mw_11_17 yk_X12_refuses (by decide) (by decide) rfl (Nat.le_of_ble_eq_true rfl) rfl dX12_go_21 ?_
  cases hf
  exact z_ireturn hE rfl dX12_go_24
set_option maxRecDepth 20000 in
theorem zb_X12_go_166 {N : Nat} {sh : Sh} {r : Int32 × Dt} {E : EV} (hE : TG E (some (.int r.1)) (sh, r.2))  {l0 : Nat} {l4 : Int32} {d : Dt} (hf : f_X12_go_166 N sh l0 l4 d = some r) : Z E yX12_go cX12_go 6 (some .int) 7 (sh, d) 166 [(0, .ref l0), (4, .int l4)] [] := by
  unfold f_X12_go_166 at hf
  refine z_aload_n 0 dX12_go_166 rfl rfl ?_
  refine z_iload 1 dX12_go_167 rfl ?_
  obtain ⟨v20, ev20, hf⟩ := ob hf
  refine z_cVi (ci := 12) (T := TX12) (N := 32) (As := [.int l4]) (rest := []) (zm_X12_says ev20).2 (zm_X12_says ev20).1 (by decide) rfl (Or.inl rfl) mw_12_4 mw_12_5 mw_12_6 mw_1_5 mw_12_7 yk_X12_says (by decide) (by decide) rfl (Nat.le_of_ble_eq_true rfl) rfl dX12_go_169 ?_
  cases hf
  exact z_ireturn hE rfl dX12_go_172
set_option maxRecDepth 20000 in
theorem zb_X12_go_155 {N : Nat} {sh : Sh} {k84 : Nat → Int32 → Int32 → Int32 → Int32 → Int32 → Dt → Option (Int32 × Dt)} {r : Int32 × Dt} {E : EV} (hE : TG E (some (.int r.1)) (sh, r.2)) (hk84 : ∀ (l0 : Nat) (l1 : Int32) (l2 : Int32) (l3 : Int32) (l4 : Int32) (l5 : Int32) (d : Dt), k84 l0 l1 l2 l3 l4 l5 d = some r → Z E yX12_go cX12_go 6 (some .int) 7 (sh, d) 84 [(0, .ref l0), (1, .int l1), (2, .int l2), (3, .int l3), (4, .int l4), (5, .int l5)] []) {l0 : Nat} {l1 : Int32} {l2 : Int32} {l3 : Int32} {l4 : Int32} {l5 : Int32} {d : Dt} (hf : f_X12_go_155 N sh k84 l0 l1 l2 l3 l4 l5 d = some r) : Z E yX12_go cX12_go 6 (some .int) 7 (sh, d) 155 [(0, .ref l0), (1, .int l1), (2, .int l2), (3, .int l3), (4, .int l4), (5, .int l5)] [] := by
  unfold f_X12_go_155 at hf
  refine z_aload_n 0 dX12_go_155 rfl rfl ?_
  refine z_iload_n 1 dX12_go_156 rfl rfl ?_
  obtain ⟨v22, ev22, hf⟩ := ob hf
  refine z_cVv (ci := 12) (T := TX12) (N := 32) (As := [.int l1]) (rest := []) (zm_X12_goesOn ev22).2 (zm_X12_goesOn ev22).1 (by decide) rfl (Or.inl rfl) mw_55_18 mw_55_19 mw_55_20 mw_1_5 mw_55_21 yk_X12_goesOn (by decide) (by decide) rfl (Nat.le_of_ble_eq_true rfl) rfl dX12_go_157 ?_
  refine z_iinc [(4, .int (l4 + 1)), (0, .ref l0), (1, .int l1), (2, .int l2), (3, .int l3), (5, .int l5)] 4 (l4 + 1) dX12_go_160 rfl rfl (by decide) rfl ?_
  refine z_goto 84 dX12_go_163 (by decide) ?_
  refine z_lv [(0, .ref l0), (1, .int l1), (2, .int l2), (3, .int l3), (4, .int (l4 + 1)), (5, .int l5)] [1, 2, 3, 4, 0, 5] rfl ?_
  exact hk84 _ _ _ _ _ _ _ hf
set_option maxRecDepth 20000 in
theorem zb_X12_go_139 {N : Nat} {sh : Sh} {k84 : Nat → Int32 → Int32 → Int32 → Int32 → Int32 → Dt → Option (Int32 × Dt)} {r : Int32 × Dt} {E : EV} (hE : TG E (some (.int r.1)) (sh, r.2)) (hk84 : ∀ (l0 : Nat) (l1 : Int32) (l2 : Int32) (l3 : Int32) (l4 : Int32) (l5 : Int32) (d : Dt), k84 l0 l1 l2 l3 l4 l5 d = some r → Z E yX12_go cX12_go 6 (some .int) 7 (sh, d) 84 [(0, .ref l0), (1, .int l1), (2, .int l2), (3, .int l3), (4, .int l4), (5, .int l5)] []) {l0 : Nat} {l1 : Int32} {l2 : Int32} {l3 : Int32} {l4 : Int32} {t0 : Int32} {d : Dt} (hf : f_X12_go_139 N sh k84 l0 l1 l2 l3 l4 t0 d = some r) : Z E yX12_go cX12_go 6 (some .int) 7 (sh, d) 139 [(0, .ref l0), (1, .int l1), (2, .int l2), (3, .int l3), (4, .int l4)] [.int t0] := by
  unfold f_X12_go_139 at hf
  refine z_istore [(5, .int t0), (0, .ref l0), (1, .int l1), (2, .int l2), (3, .int l3), (4, .int l4)] dX12_go_139 (by decide) rfl ?_
  refine z_iload 0 dX12_go_141 rfl ?_
  refine z_if_eq 84 hf dX12_go_143 (by decide) (fun hf => ?_) (fun hf => ?_)
  · refine z_lv [(0, .ref l0), (1, .int l1), (2, .int l2), (3, .int l3), (4, .int l4), (5, .int t0)] [1, 2, 3, 4, 5, 0] rfl ?_
    exact hk84 _ _ _ _ _ _ _ hf
  · refine z_iload 5 dX12_go_146 rfl ?_
    refine z_if_ne 155 hf dX12_go_148 (by decide) (fun hf => ?_) (fun hf => ?_)
    · refine z_lv [(0, .ref l0), (1, .int l1), (2, .int l2), (3, .int l3), (4, .int l4), (5, .int t0)] [1, 2, 3, 4, 5, 0] rfl ?_
      exact zb_X12_go_155 hE hk84 hf
    · refine z_aload_n 1 dX12_go_151 rfl rfl ?_
      obtain ⟨v21, ev21, hf⟩ := ob hf
      refine z_cVv (ci := 12) (T := TX12) (N := 32) (As := []) (rest := []) (zm_X12_keeps ev21).2 (zm_X12_keeps ev21).1 (by decide) rfl (Or.inl rfl) mw_11_23 mw_12_0 mw_12_1 mw_1_5 mw_12_2 yk_X12_keeps (by decide) (by decide) rfl (Nat.le_of_ble_eq_true rfl) rfl dX12_go_152 ?_
      refine z_lv [(0, .ref l0), (1, .int l1), (2, .int l2), (3, .int l3), (4, .int l4), (5, .int t0)] [1, 2, 3, 4, 5, 0] rfl ?_
      exact zb_X12_go_155 hE hk84 hf
set_option maxRecDepth 20000 in
theorem zg_X12_go_84 {N : Nat} {sh : Sh} {r : Int32 × Dt} {k84 : Nat → Int32 → Int32 → Int32 → Int32 → Int32 → Dt → Option (Int32 × Dt)} {E : EV} (hE : TG E (some (.int r.1)) (sh, r.2))  (hk84 : ∀ (l0 : Nat) (l1 : Int32) (l2 : Int32) (l3 : Int32) (l4 : Int32) (l5 : Int32) (d : Dt), k84 l0 l1 l2 l3 l4 l5 d = some r → Z E yX12_go cX12_go 6 (some .int) 7 (sh, d) 84 [(0, .ref l0), (1, .int l1), (2, .int l2), (3, .int l3), (4, .int l4), (5, .int l5)] []) {l0 : Nat} {l1 : Int32} {l2 : Int32} {l3 : Int32} {l4 : Int32} {l5 : Int32} {d : Dt} (hf : g_X12_go_84 N sh k84 l0 l1 l2 l3 l4 l5 d = some r) : Z E yX12_go cX12_go 6 (some .int) 7 (sh, d) 84 [(0, .ref l0), (1, .int l1), (2, .int l2), (3, .int l3), (4, .int l4), (5, .int l5)] [] := by
  unfold g_X12_go_84 at hf
  refine z_iload 5 dX12_go_84 rfl ?_
  refine z_if_eq 166 hf dX12_go_86 (by decide) (fun hf => ?_) (fun hf => ?_)
  · refine z_lv [(0, .ref l0), (4, .int l4)] [0, 4] rfl ?_
    exact zb_X12_go_166 hE hf
  · refine z_iload 4 dX12_go_89 rfl ?_
    refine z_iload_n 2 dX12_go_91 rfl rfl ?_
    refine z_icmp_ge 166 hf dX12_go_92 (by decide) (fun hf => ?_) (fun hf => ?_)
    · refine z_lv [(0, .ref l0), (4, .int l4)] [0, 4] rfl ?_
      exact zb_X12_go_166 hE hf
    · refine z_aload_n 0 dX12_go_95 rfl rfl ?_
      refine z_gP (ci := 12) (k := 0) (C := RX12) (T := TX12) (N := 32) rfl inlX12 (by decide) mw_6_19 (fun _ _ _ _ h9 => h9) hf (by decide) rfl dX12_go_96  (fun v13 hf => ?_)
      refine z_iload_n 3 dX12_go_99 rfl rfl ?_
      refine z_bipush 8 8 dX12_go_100 (by decide) ?_
      refine z_iadd dX12_go_102 ?_
      refine z_aI hf dX12_go_103  (fun v14 hf => ?_)
      refine z_aload_n 0 dX12_go_104 rfl rfl ?_
      refine z_gP (ci := 12) (k := 0) (C := RX12) (T := TX12) (N := 32) rfl inlX12 (by decide) mw_6_19 (fun _ _ _ _ h9 => h9) hf (by decide) rfl dX12_go_105  (fun v15 hf => ?_)
      refine z_iload_n 3 dX12_go_108 rfl rfl ?_
      refine z_bipush 7 7 dX12_go_109 (by decide) ?_
      refine z_iadd dX12_go_111 ?_
      refine z_aI hf dX12_go_112  (fun v16 hf => ?_)
      refine z_icmp_ge 166 hf dX12_go_113 (by decide) (fun hf => ?_) (fun hf => ?_)
      · refine z_lv [(0, .ref l0), (4, .int l4)] [0, 4] rfl ?_
        exact zb_X12_go_166 hE hf
      · refine z_aload_n 0 dX12_go_116 rfl rfl ?_
        refine z_dup dX12_go_117 rfl ?_
        refine z_gI (ci := 12) (k := 5) (C := RX12) (T := TX12) (N := 32) rfl inlX12 (by decide) mw_55_13 (fun _ _ _ _ h9 => h9) hf (by decide) rfl dX12_go_118  (fun v17 hf => ?_)
        refine z_iconst 1 1 dX12_go_121 (by decide) ?_
        refine z_iadd dX12_go_122 ?_
        refine z_pI (ci := 12) (k := 5) (C := RX12) (T := TX12) (N := 32) rfl inlX12 (by decide) mw_55_13 (fun _ _ _ _ h9 => h9) tyX12 tyX12_ok nmX12 rfl hf (Or.inl (by decide)) rfl rfl rfl dX12_go_123  (fun d18 hf => ?_)
        refine z_aload_n 0 dX12_go_126 rfl rfl ?_
        refine z_iload_n 1 dX12_go_127 rfl rfl ?_
        obtain ⟨v19, ev19, hf⟩ := ob hf
        refine z_cVi (ci := 12) (T := TX12) (N := 32) (As := [.int l1]) (rest := []) (zm_X12_isShutAhead ev19).2 (zm_X12_isShutAhead ev19).1 (by decide) rfl (Or.inl rfl) mw_55_14 mw_55_15 mw_55_16 mw_1_5 mw_55_17 yk_X12_isShutAhead (by decide) (by decide) rfl (Nat.le_of_ble_eq_true rfl) rfl dX12_go_128 ?_
        refine z_if_ne 138 hf dX12_go_131 (by decide) (fun hf => ?_) (fun hf => ?_)
        · refine z_iconst 0 0 dX12_go_138 (by decide) ?_
          refine z_lv [(0, .ref l0), (1, .int l1), (2, .int l2), (3, .int l3), (4, .int l4)] [0, 1, 2, 3, 4] rfl ?_
          exact zb_X12_go_139 hE hk84 hf
        · refine z_iconst 1 1 dX12_go_134 (by decide) ?_
          refine z_goto 139 dX12_go_135 (by decide) ?_
          refine z_lv [(0, .ref l0), (1, .int l1), (2, .int l2), (3, .int l3), (4, .int l4)] [0, 1, 2, 3, 4] rfl ?_
          exact zb_X12_go_139 hE hk84 hf
set_option maxRecDepth 20000 in
theorem zb_X12_go_84 {N : Nat} {sh : Sh} {r : Int32 × Dt} {E : EV} (hE : TG E (some (.int r.1)) (sh, r.2))  : ∀ (n : Nat) (l0 : Nat) (l1 : Int32) (l2 : Int32) (l3 : Int32) (l4 : Int32) (l5 : Int32) (d : Dt), f_X12_go_84 N sh n l0 l1 l2 l3 l4 l5 d = some r → Z E yX12_go cX12_go 6 (some .int) 7 (sh, d) 84 [(0, .ref l0), (1, .int l1), (2, .int l2), (3, .int l3), (4, .int l4), (5, .int l5)] [] := by
  intro n
  induction n with
  | zero => intro l0 l1 l2 l3 l4 l5 d hf; cases hf
  | succ n ih => intro l0 l1 l2 l3 l4 l5 d hf; exact zg_X12_go_84 hE ih hf
set_option maxRecDepth 20000 in
theorem zm_X12_go {N : Nat} {sh : Sh} {d : Dt} {l0 : Nat} {l1 : Int32} {l2 : Int32} {r : Int32 × Dt} (hf : f_X12_go N sh l0 l1 l2 d = some r) : isO sh l0 12 ∧ ∀ (l : Launch) (G : GG), Mt l G yX12_go cX12_go 6 (some .int) 7 [.ref l0, .int l1, .int l2] (sh, d) (some (.int r.1)) (sh, r.2) := by
  have hf0 := hf
  unfold f_X12_go at hf
  refine ite_d hf (fun hO hf => ?_) (fun _ hf => ?_)
  · refine ⟨hO, fun l G => mt_of (Or.inl (by decide)) (Nat.le_of_ble_eq_true rfl) Le.rf (fun E hE => ?_)⟩
    show Z E yX12_go cX12_go 6 (some .int) 7 (sh, d) 0 [(0, .ref l0), (1, .int l1), (2, .int l2)] []
    refine z_aload_n 0 dX12_go_0 rfl rfl ?_
    refine z_iload_n 1 dX12_go_1 rfl rfl ?_
    obtain ⟨v1, ev1, hf⟩ := ob hf
    refine z_cVi (ci := 12) (T := TX12) (N := 32) (As := [.int l1]) (rest := []) (zm_X12_isPlough ev1).2 (zm_X12_isPlough ev1).1 (by decide) rfl (Or.inl rfl) mw_32_23 mw_33_0 mw_33_1 mw_1_5 mw_33_2 yk_X12_isPlough (by decide) (by decide) rfl (Nat.le_of_ble_eq_true rfl) rfl dX12_go_2 ?_
    refine z_if_eq 18 hf dX12_go_5 (by decide) (fun hf => ?_) (fun hf => ?_)
    · refine z_lv [(0, .ref l0)] [0] rfl ?_
      exact zb_X12_go_18 hE hf
    · refine z_iload_n 2 dX12_go_8 rfl rfl ?_
      refine z_iconst 1 1 dX12_go_9 (by decide) ?_
      refine z_bipush 50 50 dX12_go_10 (by decide) ?_
      obtain ⟨v2, ev2, hf⟩ := ob hf
      refine z_cTi (As := [.int l2, .int (1 : Int32), .int (50 : Int32)]) (rest := []) (zm_X12_in ev2) (Or.inl rfl) mw_11_11 mw_11_12 mw_1_5 mw_11_13 yk_X12_in (by decide) (by decide) rfl (Nat.le_of_ble_eq_true rfl) rfl dX12_go_12 ?_
      refine z_if_ne 25 hf dX12_go_15 (by decide) (fun hf => ?_) (fun hf => ?_)
      · refine z_aload_n 0 dX12_go_25 rfl rfl ?_
        refine z_iload_n 1 dX12_go_26 rfl rfl ?_
        obtain ⟨v3, ev3, hf⟩ := ob hf
        refine z_cVi (ci := 12) (T := TX12) (N := 32) (As := [.int l1]) (rest := []) (zm_X12_pl ev3).2 (zm_X12_pl ev3).1 (by decide) rfl (Or.inl rfl) mw_31_6 mw_31_7 mw_31_8 mw_1_5 mw_31_9 yk_X12_pl (by decide) (by decide) rfl (Nat.le_of_ble_eq_true rfl) rfl dX12_go_27 ?_
        refine z_istore_n [(3, .int v3), (0, .ref l0), (1, .int l1), (2, .int l2)] dX12_go_30 rfl (by decide) rfl ?_
        refine z_aload_n 1 dX12_go_31 rfl rfl ?_
        refine z_gP (ci := 12) (k := 0) (C := RX12) (T := TX12) (N := 32) rfl inlX12 (by decide) mw_6_19 (fun _ _ _ _ h9 => h9) hf (by decide) rfl dX12_go_32  (fun v4 hf => ?_)
        refine z_iload_n 0 dX12_go_35 rfl rfl ?_
        refine z_iconst 2 2 dX12_go_36 (by decide) ?_
        refine z_iadd dX12_go_37 ?_
        refine z_aI hf dX12_go_38  (fun v5 hf => ?_)
        refine z_iconst 1 1 dX12_go_39 (by decide) ?_
        refine z_icmp_ne 50 hf dX12_go_40 (by decide) (fun hf => ?_) (fun hf => ?_)
        · refine z_aload_n 1 dX12_go_50 rfl rfl ?_
          refine z_gP (ci := 12) (k := 0) (C := RX12) (T := TX12) (N := 32) rfl inlX12 (by decide) mw_6_19 (fun _ _ _ _ h9 => h9) hf (by decide) rfl dX12_go_51  (fun v6 hf => ?_)
          refine z_iload_n 0 dX12_go_54 rfl rfl ?_
          refine z_bipush 8 8 dX12_go_55 (by decide) ?_
          refine z_iadd dX12_go_57 ?_
          refine z_aI hf dX12_go_58  (fun v7 hf => ?_)
          refine z_aload_n 1 dX12_go_59 rfl rfl ?_
          refine z_gP (ci := 12) (k := 0) (C := RX12) (T := TX12) (N := 32) rfl inlX12 (by decide) mw_6_19 (fun _ _ _ _ h9 => h9) hf (by decide) rfl dX12_go_60  (fun v8 hf => ?_)
          refine z_iload_n 0 dX12_go_63 rfl rfl ?_
          refine z_bipush 7 7 dX12_go_64 (by decide) ?_
          refine z_iadd dX12_go_66 ?_
          refine z_aI hf dX12_go_67  (fun v9 hf => ?_)
          refine z_icmp_lt 78 hf dX12_go_68 (by decide) (fun hf => ?_) (fun hf => ?_)
          · refine z_iconst 0 0 dX12_go_78 (by decide) ?_
            refine z_istore [(4, .int (0 : Int32)), (3, .int v3), (0, .ref l0), (1, .int l1), (2, .int l2)] dX12_go_79 (by decide) rfl ?_
            refine z_iconst 1 1 dX12_go_81 (by decide) ?_
            refine z_istore [(5, .int (1 : Int32)), (4, .int (0 : Int32)), (3, .int v3), (0, .ref l0), (1, .int l1), (2, .int l2)] dX12_go_82 (by decide) rfl ?_
            refine z_lv [(0, .ref l0), (1, .int l1), (2, .int l2), (3, .int v3), (4, .int (0 : Int32)), (5, .int (1 : Int32))] [3, 4, 5, 2, 1, 0] rfl ?_
            exact zb_X12_go_84 hE N _ _ _ _ _ _ _ hf
          · refine z_aload_n 1 dX12_go_71 rfl rfl ?_
            refine z_bipush (-8) (-8) dX12_go_72 (by decide) ?_
            obtain ⟨v10, ev10, hf⟩ := ob hf
            refine z_cVi (ci := 12) (T := TX12) (N := 32) (As := [.int (-8 : Int32)]) (rest := []) (zm_X12_refuses ev10).2 (zm_X12_refuses ev10).1 (by decide) rfl (Or.inl rfl) mw_11_14 mw_11_15 mw_11_16 mw_1_5 mw_11_17 yk_X12_refuses (by decide) (by decide) rfl (Nat.le_of_ble_eq_true rfl) rfl dX12_go_74 ?_
            cases hf
            exact z_ireturn hE rfl dX12_go_77
        · refine z_aload_n 1 dX12_go_43 rfl rfl ?_
          refine z_bipush (-4) (-4) dX12_go_44 (by decide) ?_
          obtain ⟨v11, ev11, hf⟩ := ob hf
          refine z_cVi (ci := 12) (T := TX12) (N := 32) (As := [.int (-4 : Int32)]) (rest := []) (zm_X12_refuses ev11).2 (zm_X12_refuses ev11).1 (by decide) rfl (Or.inl rfl) mw_11_14 mw_11_15 mw_11_16 mw_1_5 mw_11_17 yk_X12_refuses (by decide) (by decide) rfl (Nat.le_of_ble_eq_true rfl) rfl dX12_go_46 ?_
          cases hf
          exact z_ireturn hE rfl dX12_go_49
      · refine z_lv [(0, .ref l0)] [0] rfl ?_
        exact zb_X12_go_18 hE hf
  · cases hf
set_option maxRecDepth 20000 in
theorem le_X12_init_207 {N : Nat} {r : AS}   {s : AS} (hf : f_X12_init_207 N  s = some r) : Le s r := by
  unfold f_X12_init_207 at hf
  cases hf
  exact Le.rf
set_option maxRecDepth 20000 in
theorem zb_X12_init_207 {N : Nat} {r : AS} {E : EV} (hE : TG E none r)    {s : AS} (hf : f_X12_init_207 N  s = some r) : Z E yX12_init cX12_init 2 none 1 s 207 [] [] := by
  unfold f_X12_init_207 at hf
  cases hf
  exact z_return hE rfl dX12_init_207
set_option maxRecDepth 20000 in
theorem lg_X12_init_184 {N : Nat} {r : AS} {k184 : Nat → Int32 → AS → Option AS}  (hk184 : ∀ (l0 : Nat) (l1 : Int32) (s : AS), k184 l0 l1 s = some r → Le s r) {l0 : Nat} {l1 : Int32} {s : AS} (hf : g_X12_init_184 N k184 l0 l1 s = some r) : Le s r := by
  unfold g_X12_init_184 at hf
  refine ite_c hf (fun hf => ?_) (fun hf => ?_)
  · exact Le.via (le_X12_init_207 hf) rfl
  · obtain ⟨v43, -, hf⟩ := ob hf
    obtain ⟨d44, -, hf⟩ := ob hf
    exact Le.via (hk184 _ _ _ hf) rfl
set_option maxRecDepth 20000 in
theorem le_X12_init_184 {N : Nat} {r : AS}  : ∀ (n : Nat) (l0 : Nat) (l1 : Int32) (s : AS), f_X12_init_184 N n l0 l1 s = some r → Le s r := by
  intro n
  induction n with
  | zero => intro l0 l1 s hf; cases hf
  | succ n ih => intro l0 l1 s hf; exact lg_X12_init_184 ih hf
set_option maxRecDepth 20000 in
theorem zg_X12_init_184 {N : Nat} {r : AS} {k184 : Nat → Int32 → AS → Option AS} {E : EV} (hE : TG E none r)   (hk184 : ∀ (l0 : Nat) (l1 : Int32) (s : AS), k184 l0 l1 s = some r → Z E yX12_init cX12_init 2 none 1 s 184 [(0, .ref l0), (1, .int l1)] []) (hq184 : ∀ (l0 : Nat) (l1 : Int32) (s : AS), k184 l0 l1 s = some r → Le s r) {l0 : Nat} {l1 : Int32} {s : AS} (hf : g_X12_init_184 N k184 l0 l1 s = some r) : Z E yX12_init cX12_init 2 none 1 s 184 [(0, .ref l0), (1, .int l1)] [] := by
  unfold g_X12_init_184 at hf
  refine z_iload_n 1 dX12_init_184 rfl rfl ?_
  refine z_bipush 60 60 dX12_init_185 (by decide) ?_
  refine z_icmp_ge 207 hf dX12_init_187 (by decide) (fun hf => ?_) (fun hf => ?_)
  · refine z_lv [] [] rfl ?_
    exact zb_X12_init_207 hE hf
  · refine z_aload_n 0 dX12_init_190 rfl rfl ?_
    refine z_gP (ci := 12) (k := 0) (C := RX12) (T := TX12) (N := 32) rfl inlX12 (by decide) mw_6_19 (fun _ _ _ _ h9 => h9) hf (by decide) rfl dX12_init_191  (fun v43 hf => ?_)
    refine z_sipush 9582 9582 dX12_init_194 (by decide) ?_
    refine z_iload_n 1 dX12_init_197 rfl rfl ?_
    refine z_iadd dX12_init_198 ?_
    refine z_iconst (-1) (-1) dX12_init_199 (by decide) ?_
    refine z_sI hf dX12_init_200  (fun d44 hf => ?_)
    refine z_iinc [(1, .int (l1 + 1)), (0, .ref l0)] 1 (l1 + 1) dX12_init_201 rfl rfl (by decide) rfl ?_
    refine z_goto 184 dX12_init_204 (by decide) ?_
    refine z_lv [(0, .ref l0), (1, .int (l1 + 1))] [1, 0] rfl ?_
    exact hk184 _ _ _ hf
set_option maxRecDepth 20000 in
theorem zb_X12_init_184 {N : Nat} {r : AS} {E : EV} (hE : TG E none r)   : ∀ (n : Nat) (l0 : Nat) (l1 : Int32) (s : AS), f_X12_init_184 N n l0 l1 s = some r → Z E yX12_init cX12_init 2 none 1 s 184 [(0, .ref l0), (1, .int l1)] [] := by
  intro n
  induction n with
  | zero => intro l0 l1 s hf; cases hf
  | succ n ih => intro l0 l1 s hf; exact zg_X12_init_184 hE ih (le_X12_init_184 n) hf
set_option maxRecDepth 20000 in
theorem le_X12_init_182 {N : Nat} {r : AS}  {l0 : Nat} {s : AS} (hf : f_X12_init_182 N l0 s = some r) : Le s r := by
  unfold f_X12_init_182 at hf
  exact Le.via (le_X12_init_184 N _ _ _ hf) rfl
set_option maxRecDepth 20000 in
theorem zb_X12_init_182 {N : Nat} {r : AS} {E : EV} (hE : TG E none r)   {l0 : Nat} {s : AS} (hf : f_X12_init_182 N l0 s = some r) : Z E yX12_init cX12_init 2 none 1 s 182 [(0, .ref l0)] [] := by
  unfold f_X12_init_182 at hf
  refine z_iconst 0 0 dX12_init_182 (by decide) ?_
  refine z_istore_n [(1, .int (0 : Int32)), (0, .ref l0)] dX12_init_183 rfl (by decide) rfl ?_
  refine z_lv [(0, .ref l0), (1, .int (0 : Int32))] [1, 0] rfl ?_
  exact zb_X12_init_184 hE N _ _ _ hf
set_option maxRecDepth 20000 in
theorem le_X12_init_179 {N : Nat} {r : AS}  {l0 : Nat} {t0 : Nat} {t1 : Nat} {s : AS} (hf : f_X12_init_179 N l0 t0 t1 s = some r) : Le s r := by
  unfold f_X12_init_179 at hf
  obtain ⟨s42, es42, hf⟩ := ob hf
  refine Le.of (t := (s.1, s.2)) rfl ((le_pP es42).tr ?_)
  exact Le.via (le_X12_init_182 hf) rfl
set_option maxRecDepth 20000 in
theorem zb_X12_init_179 {N : Nat} {r : AS} {E : EV} (hE : TG E none r)   {l0 : Nat} {t0 : Nat} {t1 : Nat} {s : AS} (hf : f_X12_init_179 N l0 t0 t1 s = some r) : Z E yX12_init cX12_init 2 none 1 s 179 [(0, .ref l0)] [.ref t1, .ref t0] := by
  unfold f_X12_init_179 at hf
  refine z_pP (ci := 12) (k := 31) (C := RX12) (T := TX12) (N := 32) rfl inlX12 (by decide) mw_7_16 (fun _ _ _ _ h9 => h9) tyX12 tyX12_ok nmX12 rfl rfl rfl hf (Or.inl (by decide)) rfl rfl rfl dX12_init_179 (fun s42 es42 hf => ?_)
  exact zb_X12_init_182 hE hf
set_option maxRecDepth 20000 in
theorem le_X12_init_174 {N : Nat} {r : AS}  {l0 : Nat} {s : AS} (hf : f_X12_init_174 N l0 s = some r) : Le s r := by
  unfold f_X12_init_174 at hf
  obtain ⟨s41, es41, hf⟩ := ob hf
  refine Le.of (t := (s.1, s.2)) rfl ((le_nArr es41).tr ?_)
  exact Le.via (le_X12_init_179 hf) rfl
set_option maxRecDepth 20000 in
theorem zb_X12_init_174 {N : Nat} {r : AS} {E : EV} (hE : TG E none r)   {l0 : Nat} {s : AS} (hf : f_X12_init_174 N l0 s = some r) : Z E yX12_init cX12_init 2 none 1 s 174 [(0, .ref l0)] [] := by
  unfold f_X12_init_174 at hf
  refine z_aload_n 0 dX12_init_174 rfl rfl ?_
  refine z_bipush 12 12 dX12_init_175 (by decide) ?_
  refine z_na0 hf (fun _ hf => tg_le hE (le_X12_init_179 hf)) mw_2_13 dX12_init_177 (fun s41 hf => ?_)
  exact zb_X12_init_179 hE hf
set_option maxRecDepth 20000 in
theorem le_X12_init_171 {N : Nat} {r : AS}  {l0 : Nat} {t0 : Nat} {t1 : Nat} {s : AS} (hf : f_X12_init_171 N l0 t0 t1 s = some r) : Le s r := by
  unfold f_X12_init_171 at hf
  obtain ⟨s40, es40, hf⟩ := ob hf
  refine Le.of (t := (s.1, s.2)) rfl ((le_pP es40).tr ?_)
  exact Le.via (le_X12_init_174 hf) rfl
set_option maxRecDepth 20000 in
theorem zb_X12_init_171 {N : Nat} {r : AS} {E : EV} (hE : TG E none r)   {l0 : Nat} {t0 : Nat} {t1 : Nat} {s : AS} (hf : f_X12_init_171 N l0 t0 t1 s = some r) : Z E yX12_init cX12_init 2 none 1 s 171 [(0, .ref l0)] [.ref t1, .ref t0] := by
  unfold f_X12_init_171 at hf
  refine z_pP (ci := 12) (k := 30) (C := RX12) (T := TX12) (N := 32) rfl inlX12 (by decide) mw_7_15 (fun _ _ _ _ h9 => h9) tyX12 tyX12_ok nmX12 rfl rfl rfl hf (Or.inl (by decide)) rfl rfl rfl dX12_init_171 (fun s40 es40 hf => ?_)
  exact zb_X12_init_174 hE hf
set_option maxRecDepth 20000 in
theorem le_X12_init_166 {N : Nat} {r : AS}  {l0 : Nat} {s : AS} (hf : f_X12_init_166 N l0 s = some r) : Le s r := by
  unfold f_X12_init_166 at hf
  obtain ⟨s39, es39, hf⟩ := ob hf
  refine Le.of (t := (s.1, s.2)) rfl ((le_nArr es39).tr ?_)
  exact Le.via (le_X12_init_171 hf) rfl
set_option maxRecDepth 20000 in
theorem zb_X12_init_166 {N : Nat} {r : AS} {E : EV} (hE : TG E none r)   {l0 : Nat} {s : AS} (hf : f_X12_init_166 N l0 s = some r) : Z E yX12_init cX12_init 2 none 1 s 166 [(0, .ref l0)] [] := by
  unfold f_X12_init_166 at hf
  refine z_aload_n 0 dX12_init_166 rfl rfl ?_
  refine z_bipush 12 12 dX12_init_167 (by decide) ?_
  refine z_na0 hf (fun _ hf => tg_le hE (le_X12_init_171 hf)) mw_2_13 dX12_init_169 (fun s39 hf => ?_)
  exact zb_X12_init_171 hE hf
set_option maxRecDepth 20000 in
theorem le_X12_init_163 {N : Nat} {r : AS}  {l0 : Nat} {t0 : Nat} {t1 : Nat} {s : AS} (hf : f_X12_init_163 N l0 t0 t1 s = some r) : Le s r := by
  unfold f_X12_init_163 at hf
  obtain ⟨s38, es38, hf⟩ := ob hf
  refine Le.of (t := (s.1, s.2)) rfl ((le_pP es38).tr ?_)
  exact Le.via (le_X12_init_166 hf) rfl
set_option maxRecDepth 20000 in
theorem zb_X12_init_163 {N : Nat} {r : AS} {E : EV} (hE : TG E none r)   {l0 : Nat} {t0 : Nat} {t1 : Nat} {s : AS} (hf : f_X12_init_163 N l0 t0 t1 s = some r) : Z E yX12_init cX12_init 2 none 1 s 163 [(0, .ref l0)] [.ref t1, .ref t0] := by
  unfold f_X12_init_163 at hf
  refine z_pP (ci := 12) (k := 29) (C := RX12) (T := TX12) (N := 32) rfl inlX12 (by decide) mw_7_14 (fun _ _ _ _ h9 => h9) tyX12 tyX12_ok nmX12 rfl rfl rfl hf (Or.inl (by decide)) rfl rfl rfl dX12_init_163 (fun s38 es38 hf => ?_)
  exact zb_X12_init_166 hE hf
set_option maxRecDepth 20000 in
theorem le_X12_init_158 {N : Nat} {r : AS}  {l0 : Nat} {s : AS} (hf : f_X12_init_158 N l0 s = some r) : Le s r := by
  unfold f_X12_init_158 at hf
  obtain ⟨s37, es37, hf⟩ := ob hf
  refine Le.of (t := (s.1, s.2)) rfl ((le_nArr es37).tr ?_)
  exact Le.via (le_X12_init_163 hf) rfl
set_option maxRecDepth 20000 in
theorem zb_X12_init_158 {N : Nat} {r : AS} {E : EV} (hE : TG E none r)   {l0 : Nat} {s : AS} (hf : f_X12_init_158 N l0 s = some r) : Z E yX12_init cX12_init 2 none 1 s 158 [(0, .ref l0)] [] := by
  unfold f_X12_init_158 at hf
  refine z_aload_n 0 dX12_init_158 rfl rfl ?_
  refine z_bipush 12 12 dX12_init_159 (by decide) ?_
  refine z_na0 hf (fun _ hf => tg_le hE (le_X12_init_163 hf)) mw_2_13 dX12_init_161 (fun s37 hf => ?_)
  exact zb_X12_init_163 hE hf
set_option maxRecDepth 20000 in
theorem le_X12_init_155 {N : Nat} {r : AS}  {l0 : Nat} {t0 : Nat} {t1 : Nat} {s : AS} (hf : f_X12_init_155 N l0 t0 t1 s = some r) : Le s r := by
  unfold f_X12_init_155 at hf
  obtain ⟨s36, es36, hf⟩ := ob hf
  refine Le.of (t := (s.1, s.2)) rfl ((le_pP es36).tr ?_)
  exact Le.via (le_X12_init_158 hf) rfl
set_option maxRecDepth 20000 in
theorem zb_X12_init_155 {N : Nat} {r : AS} {E : EV} (hE : TG E none r)   {l0 : Nat} {t0 : Nat} {t1 : Nat} {s : AS} (hf : f_X12_init_155 N l0 t0 t1 s = some r) : Z E yX12_init cX12_init 2 none 1 s 155 [(0, .ref l0)] [.ref t1, .ref t0] := by
  unfold f_X12_init_155 at hf
  refine z_pP (ci := 12) (k := 28) (C := RX12) (T := TX12) (N := 32) rfl inlX12 (by decide) mw_7_13 (fun _ _ _ _ h9 => h9) tyX12 tyX12_ok nmX12 rfl rfl rfl hf (Or.inl (by decide)) rfl rfl rfl dX12_init_155 (fun s36 es36 hf => ?_)
  exact zb_X12_init_158 hE hf
set_option maxRecDepth 20000 in
theorem le_X12_init_149 {N : Nat} {r : AS}  {l0 : Nat} {s : AS} (hf : f_X12_init_149 N l0 s = some r) : Le s r := by
  unfold f_X12_init_149 at hf
  obtain ⟨s35, es35, hf⟩ := ob hf
  refine Le.of (t := (s.1, s.2)) rfl ((le_nArr es35).tr ?_)
  exact Le.via (le_X12_init_155 hf) rfl
set_option maxRecDepth 20000 in
theorem zb_X12_init_149 {N : Nat} {r : AS} {E : EV} (hE : TG E none r)   {l0 : Nat} {s : AS} (hf : f_X12_init_149 N l0 s = some r) : Z E yX12_init cX12_init 2 none 1 s 149 [(0, .ref l0)] [] := by
  unfold f_X12_init_149 at hf
  refine z_aload_n 0 dX12_init_149 rfl rfl ?_
  refine z_sipush 150 150 dX12_init_150 (by decide) ?_
  refine z_na0 hf (fun _ hf => tg_le hE (le_X12_init_155 hf)) mw_2_13 dX12_init_153 (fun s35 hf => ?_)
  exact zb_X12_init_155 hE hf
set_option maxRecDepth 20000 in
theorem le_X12_init_146 {N : Nat} {r : AS}  {l0 : Nat} {t0 : Nat} {t1 : Nat} {s : AS} (hf : f_X12_init_146 N l0 t0 t1 s = some r) : Le s r := by
  unfold f_X12_init_146 at hf
  obtain ⟨s34, es34, hf⟩ := ob hf
  refine Le.of (t := (s.1, s.2)) rfl ((le_pP es34).tr ?_)
  exact Le.via (le_X12_init_149 hf) rfl
set_option maxRecDepth 20000 in
theorem zb_X12_init_146 {N : Nat} {r : AS} {E : EV} (hE : TG E none r)   {l0 : Nat} {t0 : Nat} {t1 : Nat} {s : AS} (hf : f_X12_init_146 N l0 t0 t1 s = some r) : Z E yX12_init cX12_init 2 none 1 s 146 [(0, .ref l0)] [.ref t1, .ref t0] := by
  unfold f_X12_init_146 at hf
  refine z_pP (ci := 12) (k := 27) (C := RX12) (T := TX12) (N := 32) rfl inlX12 (by decide) mw_7_12 (fun _ _ _ _ h9 => h9) tyX12 tyX12_ok nmX12 rfl rfl rfl hf (Or.inl (by decide)) rfl rfl rfl dX12_init_146 (fun s34 es34 hf => ?_)
  exact zb_X12_init_149 hE hf
set_option maxRecDepth 20000 in
theorem le_X12_init_140 {N : Nat} {r : AS}  {l0 : Nat} {s : AS} (hf : f_X12_init_140 N l0 s = some r) : Le s r := by
  unfold f_X12_init_140 at hf
  obtain ⟨s33, es33, hf⟩ := ob hf
  refine Le.of (t := (s.1, s.2)) rfl ((le_nArr es33).tr ?_)
  exact Le.via (le_X12_init_146 hf) rfl
set_option maxRecDepth 20000 in
theorem zb_X12_init_140 {N : Nat} {r : AS} {E : EV} (hE : TG E none r)   {l0 : Nat} {s : AS} (hf : f_X12_init_140 N l0 s = some r) : Z E yX12_init cX12_init 2 none 1 s 140 [(0, .ref l0)] [] := by
  unfold f_X12_init_140 at hf
  refine z_aload_n 0 dX12_init_140 rfl rfl ?_
  refine z_sipush 2000 2000 dX12_init_141 (by decide) ?_
  refine z_na0 hf (fun _ hf => tg_le hE (le_X12_init_146 hf)) mw_2_13 dX12_init_144 (fun s33 hf => ?_)
  exact zb_X12_init_146 hE hf
set_option maxRecDepth 20000 in
theorem le_X12_init_137 {N : Nat} {r : AS}  {l0 : Nat} {t0 : Nat} {t1 : Nat} {s : AS} (hf : f_X12_init_137 N l0 t0 t1 s = some r) : Le s r := by
  unfold f_X12_init_137 at hf
  obtain ⟨s32, es32, hf⟩ := ob hf
  refine Le.of (t := (s.1, s.2)) rfl ((le_pP es32).tr ?_)
  exact Le.via (le_X12_init_140 hf) rfl
set_option maxRecDepth 20000 in
theorem zb_X12_init_137 {N : Nat} {r : AS} {E : EV} (hE : TG E none r)   {l0 : Nat} {t0 : Nat} {t1 : Nat} {s : AS} (hf : f_X12_init_137 N l0 t0 t1 s = some r) : Z E yX12_init cX12_init 2 none 1 s 137 [(0, .ref l0)] [.ref t1, .ref t0] := by
  unfold f_X12_init_137 at hf
  refine z_pP (ci := 12) (k := 26) (C := RX12) (T := TX12) (N := 32) rfl inlX12 (by decide) mw_7_11 (fun _ _ _ _ h9 => h9) tyX12 tyX12_ok nmX12 rfl rfl rfl hf (Or.inl (by decide)) rfl rfl rfl dX12_init_137 (fun s32 es32 hf => ?_)
  exact zb_X12_init_140 hE hf
set_option maxRecDepth 20000 in
theorem le_X12_init_131 {N : Nat} {r : AS}  {l0 : Nat} {s : AS} (hf : f_X12_init_131 N l0 s = some r) : Le s r := by
  unfold f_X12_init_131 at hf
  obtain ⟨s31, es31, hf⟩ := ob hf
  refine Le.of (t := (s.1, s.2)) rfl ((le_nArr es31).tr ?_)
  exact Le.via (le_X12_init_137 hf) rfl
set_option maxRecDepth 20000 in
theorem zb_X12_init_131 {N : Nat} {r : AS} {E : EV} (hE : TG E none r)   {l0 : Nat} {s : AS} (hf : f_X12_init_131 N l0 s = some r) : Z E yX12_init cX12_init 2 none 1 s 131 [(0, .ref l0)] [] := by
  unfold f_X12_init_131 at hf
  refine z_aload_n 0 dX12_init_131 rfl rfl ?_
  refine z_sipush 2000 2000 dX12_init_132 (by decide) ?_
  refine z_na0 hf (fun _ hf => tg_le hE (le_X12_init_137 hf)) mw_2_13 dX12_init_135 (fun s31 hf => ?_)
  exact zb_X12_init_137 hE hf
set_option maxRecDepth 20000 in
theorem le_X12_init_128 {N : Nat} {r : AS}  {l0 : Nat} {t0 : Nat} {t1 : Nat} {s : AS} (hf : f_X12_init_128 N l0 t0 t1 s = some r) : Le s r := by
  unfold f_X12_init_128 at hf
  obtain ⟨s30, es30, hf⟩ := ob hf
  refine Le.of (t := (s.1, s.2)) rfl ((le_pP es30).tr ?_)
  exact Le.via (le_X12_init_131 hf) rfl
set_option maxRecDepth 20000 in
theorem zb_X12_init_128 {N : Nat} {r : AS} {E : EV} (hE : TG E none r)   {l0 : Nat} {t0 : Nat} {t1 : Nat} {s : AS} (hf : f_X12_init_128 N l0 t0 t1 s = some r) : Z E yX12_init cX12_init 2 none 1 s 128 [(0, .ref l0)] [.ref t1, .ref t0] := by
  unfold f_X12_init_128 at hf
  refine z_pP (ci := 12) (k := 25) (C := RX12) (T := TX12) (N := 32) rfl inlX12 (by decide) mw_7_10 (fun _ _ _ _ h9 => h9) tyX12 tyX12_ok nmX12 rfl rfl rfl hf (Or.inl (by decide)) rfl rfl rfl dX12_init_128 (fun s30 es30 hf => ?_)
  exact zb_X12_init_131 hE hf
set_option maxRecDepth 20000 in
theorem le_X12_init_122 {N : Nat} {r : AS}  {l0 : Nat} {s : AS} (hf : f_X12_init_122 N l0 s = some r) : Le s r := by
  unfold f_X12_init_122 at hf
  obtain ⟨s29, es29, hf⟩ := ob hf
  refine Le.of (t := (s.1, s.2)) rfl ((le_nArr es29).tr ?_)
  exact Le.via (le_X12_init_128 hf) rfl
set_option maxRecDepth 20000 in
theorem zb_X12_init_122 {N : Nat} {r : AS} {E : EV} (hE : TG E none r)   {l0 : Nat} {s : AS} (hf : f_X12_init_122 N l0 s = some r) : Z E yX12_init cX12_init 2 none 1 s 122 [(0, .ref l0)] [] := by
  unfold f_X12_init_122 at hf
  refine z_aload_n 0 dX12_init_122 rfl rfl ?_
  refine z_sipush 2000 2000 dX12_init_123 (by decide) ?_
  refine z_na0 hf (fun _ hf => tg_le hE (le_X12_init_128 hf)) mw_2_13 dX12_init_126 (fun s29 hf => ?_)
  exact zb_X12_init_128 hE hf
set_option maxRecDepth 20000 in
theorem le_X12_init_119 {N : Nat} {r : AS}  {l0 : Nat} {t0 : Nat} {t1 : Nat} {s : AS} (hf : f_X12_init_119 N l0 t0 t1 s = some r) : Le s r := by
  unfold f_X12_init_119 at hf
  obtain ⟨s28, es28, hf⟩ := ob hf
  refine Le.of (t := (s.1, s.2)) rfl ((le_pP es28).tr ?_)
  exact Le.via (le_X12_init_122 hf) rfl
set_option maxRecDepth 20000 in
theorem zb_X12_init_119 {N : Nat} {r : AS} {E : EV} (hE : TG E none r)   {l0 : Nat} {t0 : Nat} {t1 : Nat} {s : AS} (hf : f_X12_init_119 N l0 t0 t1 s = some r) : Z E yX12_init cX12_init 2 none 1 s 119 [(0, .ref l0)] [.ref t1, .ref t0] := by
  unfold f_X12_init_119 at hf
  refine z_pP (ci := 12) (k := 23) (C := RX12) (T := TX12) (N := 32) rfl inlX12 (by decide) mw_7_9 (fun _ _ _ _ h9 => h9) tyX12 tyX12_ok nmX12 rfl rfl rfl hf (Or.inl (by decide)) rfl rfl rfl dX12_init_119 (fun s28 es28 hf => ?_)
  exact zb_X12_init_122 hE hf
set_option maxRecDepth 20000 in
theorem le_X12_init_114 {N : Nat} {r : AS}  {l0 : Nat} {s : AS} (hf : f_X12_init_114 N l0 s = some r) : Le s r := by
  unfold f_X12_init_114 at hf
  obtain ⟨s27, es27, hf⟩ := ob hf
  refine Le.of (t := (s.1, s.2)) rfl ((le_nArr es27).tr ?_)
  exact Le.via (le_X12_init_119 hf) rfl
set_option maxRecDepth 20000 in
theorem zb_X12_init_114 {N : Nat} {r : AS} {E : EV} (hE : TG E none r)   {l0 : Nat} {s : AS} (hf : f_X12_init_114 N l0 s = some r) : Z E yX12_init cX12_init 2 none 1 s 114 [(0, .ref l0)] [] := by
  unfold f_X12_init_114 at hf
  refine z_aload_n 0 dX12_init_114 rfl rfl ?_
  refine z_bipush 30 30 dX12_init_115 (by decide) ?_
  refine z_na0 hf (fun _ hf => tg_le hE (le_X12_init_119 hf)) mw_2_13 dX12_init_117 (fun s27 hf => ?_)
  exact zb_X12_init_119 hE hf
set_option maxRecDepth 20000 in
theorem le_X12_init_111 {N : Nat} {r : AS}  {l0 : Nat} {t0 : Nat} {t1 : Nat} {s : AS} (hf : f_X12_init_111 N l0 t0 t1 s = some r) : Le s r := by
  unfold f_X12_init_111 at hf
  obtain ⟨s26, es26, hf⟩ := ob hf
  refine Le.of (t := (s.1, s.2)) rfl ((le_pP es26).tr ?_)
  exact Le.via (le_X12_init_114 hf) rfl
set_option maxRecDepth 20000 in
theorem zb_X12_init_111 {N : Nat} {r : AS} {E : EV} (hE : TG E none r)   {l0 : Nat} {t0 : Nat} {t1 : Nat} {s : AS} (hf : f_X12_init_111 N l0 t0 t1 s = some r) : Z E yX12_init cX12_init 2 none 1 s 111 [(0, .ref l0)] [.ref t1, .ref t0] := by
  unfold f_X12_init_111 at hf
  refine z_pP (ci := 12) (k := 22) (C := RX12) (T := TX12) (N := 32) rfl inlX12 (by decide) mw_7_8 (fun _ _ _ _ h9 => h9) tyX12 tyX12_ok nmX12 rfl rfl rfl hf (Or.inl (by decide)) rfl rfl rfl dX12_init_111 (fun s26 es26 hf => ?_)
  exact zb_X12_init_114 hE hf
set_option maxRecDepth 20000 in
theorem le_X12_init_106 {N : Nat} {r : AS}  {l0 : Nat} {s : AS} (hf : f_X12_init_106 N l0 s = some r) : Le s r := by
  unfold f_X12_init_106 at hf
  obtain ⟨s25, es25, hf⟩ := ob hf
  refine Le.of (t := (s.1, s.2)) rfl ((le_nArr es25).tr ?_)
  exact Le.via (le_X12_init_111 hf) rfl
set_option maxRecDepth 20000 in
theorem zb_X12_init_106 {N : Nat} {r : AS} {E : EV} (hE : TG E none r)   {l0 : Nat} {s : AS} (hf : f_X12_init_106 N l0 s = some r) : Z E yX12_init cX12_init 2 none 1 s 106 [(0, .ref l0)] [] := by
  unfold f_X12_init_106 at hf
  refine z_aload_n 0 dX12_init_106 rfl rfl ?_
  refine z_bipush 30 30 dX12_init_107 (by decide) ?_
  refine z_na0 hf (fun _ hf => tg_le hE (le_X12_init_111 hf)) mw_2_13 dX12_init_109 (fun s25 hf => ?_)
  exact zb_X12_init_111 hE hf
set_option maxRecDepth 20000 in
theorem le_X12_init_103 {N : Nat} {r : AS}  {l0 : Nat} {t0 : Nat} {t1 : Nat} {s : AS} (hf : f_X12_init_103 N l0 t0 t1 s = some r) : Le s r := by
  unfold f_X12_init_103 at hf
  obtain ⟨s24, es24, hf⟩ := ob hf
  refine Le.of (t := (s.1, s.2)) rfl ((le_pP es24).tr ?_)
  exact Le.via (le_X12_init_106 hf) rfl
set_option maxRecDepth 20000 in
theorem zb_X12_init_103 {N : Nat} {r : AS} {E : EV} (hE : TG E none r)   {l0 : Nat} {t0 : Nat} {t1 : Nat} {s : AS} (hf : f_X12_init_103 N l0 t0 t1 s = some r) : Z E yX12_init cX12_init 2 none 1 s 103 [(0, .ref l0)] [.ref t1, .ref t0] := by
  unfold f_X12_init_103 at hf
  refine z_pP (ci := 12) (k := 18) (C := RX12) (T := TX12) (N := 32) rfl inlX12 (by decide) mw_7_7 (fun _ _ _ _ h9 => h9) tyX12 tyX12_ok nmX12 rfl rfl rfl hf (Or.inl (by decide)) rfl rfl rfl dX12_init_103 (fun s24 es24 hf => ?_)
  exact zb_X12_init_106 hE hf
set_option maxRecDepth 20000 in
theorem le_X12_init_97 {N : Nat} {r : AS}  {l0 : Nat} {s : AS} (hf : f_X12_init_97 N l0 s = some r) : Le s r := by
  unfold f_X12_init_97 at hf
  obtain ⟨s23, es23, hf⟩ := ob hf
  refine Le.of (t := (s.1, s.2)) rfl ((le_nArr es23).tr ?_)
  exact Le.via (le_X12_init_103 hf) rfl
set_option maxRecDepth 20000 in
theorem zb_X12_init_97 {N : Nat} {r : AS} {E : EV} (hE : TG E none r)   {l0 : Nat} {s : AS} (hf : f_X12_init_97 N l0 s = some r) : Z E yX12_init cX12_init 2 none 1 s 97 [(0, .ref l0)] [] := by
  unfold f_X12_init_97 at hf
  refine z_aload_n 0 dX12_init_97 rfl rfl ?_
  refine z_sipush 16384 16384 dX12_init_98 (by decide) ?_
  refine z_na0 hf (fun _ hf => tg_le hE (le_X12_init_103 hf)) mw_2_13 dX12_init_101 (fun s23 hf => ?_)
  exact zb_X12_init_103 hE hf
set_option maxRecDepth 20000 in
theorem le_X12_init_94 {N : Nat} {r : AS}  {l0 : Nat} {t0 : Nat} {t1 : Nat} {s : AS} (hf : f_X12_init_94 N l0 t0 t1 s = some r) : Le s r := by
  unfold f_X12_init_94 at hf
  obtain ⟨s22, es22, hf⟩ := ob hf
  refine Le.of (t := (s.1, s.2)) rfl ((le_pP es22).tr ?_)
  exact Le.via (le_X12_init_97 hf) rfl
set_option maxRecDepth 20000 in
theorem zb_X12_init_94 {N : Nat} {r : AS} {E : EV} (hE : TG E none r)   {l0 : Nat} {t0 : Nat} {t1 : Nat} {s : AS} (hf : f_X12_init_94 N l0 t0 t1 s = some r) : Z E yX12_init cX12_init 2 none 1 s 94 [(0, .ref l0)] [.ref t1, .ref t0] := by
  unfold f_X12_init_94 at hf
  refine z_pP (ci := 12) (k := 17) (C := RX12) (T := TX12) (N := 32) rfl inlX12 (by decide) mw_7_6 (fun _ _ _ _ h9 => h9) tyX12 tyX12_ok nmX12 rfl rfl rfl hf (Or.inl (by decide)) rfl rfl rfl dX12_init_94 (fun s22 es22 hf => ?_)
  exact zb_X12_init_97 hE hf
set_option maxRecDepth 20000 in
theorem le_X12_init_89 {N : Nat} {r : AS}  {l0 : Nat} {s : AS} (hf : f_X12_init_89 N l0 s = some r) : Le s r := by
  unfold f_X12_init_89 at hf
  obtain ⟨s21, es21, hf⟩ := ob hf
  refine Le.of (t := (s.1, s.2)) rfl ((le_nArr es21).tr ?_)
  exact Le.via (le_X12_init_94 hf) rfl
set_option maxRecDepth 20000 in
theorem zb_X12_init_89 {N : Nat} {r : AS} {E : EV} (hE : TG E none r)   {l0 : Nat} {s : AS} (hf : f_X12_init_89 N l0 s = some r) : Z E yX12_init cX12_init 2 none 1 s 89 [(0, .ref l0)] [] := by
  unfold f_X12_init_89 at hf
  refine z_aload_n 0 dX12_init_89 rfl rfl ?_
  refine z_bipush 60 60 dX12_init_90 (by decide) ?_
  refine z_na4 hf (fun _ hf => tg_le hE (le_X12_init_94 hf)) mw_7_1 dX12_init_92 (fun s21 hf => ?_)
  exact zb_X12_init_94 hE hf
set_option maxRecDepth 20000 in
theorem le_X12_init_86 {N : Nat} {r : AS}  {l0 : Nat} {t0 : Nat} {t1 : Nat} {s : AS} (hf : f_X12_init_86 N l0 t0 t1 s = some r) : Le s r := by
  unfold f_X12_init_86 at hf
  obtain ⟨s20, es20, hf⟩ := ob hf
  refine Le.of (t := (s.1, s.2)) rfl ((le_pP es20).tr ?_)
  exact Le.via (le_X12_init_89 hf) rfl
set_option maxRecDepth 20000 in
theorem zb_X12_init_86 {N : Nat} {r : AS} {E : EV} (hE : TG E none r)   {l0 : Nat} {t0 : Nat} {t1 : Nat} {s : AS} (hf : f_X12_init_86 N l0 t0 t1 s = some r) : Z E yX12_init cX12_init 2 none 1 s 86 [(0, .ref l0)] [.ref t1, .ref t0] := by
  unfold f_X12_init_86 at hf
  refine z_pP (ci := 12) (k := 15) (C := RX12) (T := TX12) (N := 32) rfl inlX12 (by decide) mw_7_5 (fun _ _ _ _ h9 => h9) tyX12 tyX12_ok nmX12 rfl rfl rfl hf (Or.inl (by decide)) rfl rfl rfl dX12_init_86 (fun s20 es20 hf => ?_)
  exact zb_X12_init_89 hE hf
set_option maxRecDepth 20000 in
theorem le_X12_init_81 {N : Nat} {r : AS}  {l0 : Nat} {s : AS} (hf : f_X12_init_81 N l0 s = some r) : Le s r := by
  unfold f_X12_init_81 at hf
  obtain ⟨s19, es19, hf⟩ := ob hf
  refine Le.of (t := (s.1, s.2)) rfl ((le_nArr es19).tr ?_)
  exact Le.via (le_X12_init_86 hf) rfl
set_option maxRecDepth 20000 in
theorem zb_X12_init_81 {N : Nat} {r : AS} {E : EV} (hE : TG E none r)   {l0 : Nat} {s : AS} (hf : f_X12_init_81 N l0 s = some r) : Z E yX12_init cX12_init 2 none 1 s 81 [(0, .ref l0)] [] := by
  unfold f_X12_init_81 at hf
  refine z_aload_n 0 dX12_init_81 rfl rfl ?_
  refine z_bipush 60 60 dX12_init_82 (by decide) ?_
  refine z_na0 hf (fun _ hf => tg_le hE (le_X12_init_86 hf)) mw_2_13 dX12_init_84 (fun s19 hf => ?_)
  exact zb_X12_init_86 hE hf
set_option maxRecDepth 20000 in
theorem le_X12_init_78 {N : Nat} {r : AS}  {l0 : Nat} {t0 : Nat} {t1 : Nat} {s : AS} (hf : f_X12_init_78 N l0 t0 t1 s = some r) : Le s r := by
  unfold f_X12_init_78 at hf
  obtain ⟨s18, es18, hf⟩ := ob hf
  refine Le.of (t := (s.1, s.2)) rfl ((le_pP es18).tr ?_)
  exact Le.via (le_X12_init_81 hf) rfl
set_option maxRecDepth 20000 in
theorem zb_X12_init_78 {N : Nat} {r : AS} {E : EV} (hE : TG E none r)   {l0 : Nat} {t0 : Nat} {t1 : Nat} {s : AS} (hf : f_X12_init_78 N l0 t0 t1 s = some r) : Z E yX12_init cX12_init 2 none 1 s 78 [(0, .ref l0)] [.ref t1, .ref t0] := by
  unfold f_X12_init_78 at hf
  refine z_pP (ci := 12) (k := 14) (C := RX12) (T := TX12) (N := 32) rfl inlX12 (by decide) mw_7_4 (fun _ _ _ _ h9 => h9) tyX12 tyX12_ok nmX12 rfl rfl rfl hf (Or.inl (by decide)) rfl rfl rfl dX12_init_78 (fun s18 es18 hf => ?_)
  exact zb_X12_init_81 hE hf
set_option maxRecDepth 20000 in
theorem le_X12_init_72 {N : Nat} {r : AS}  {l0 : Nat} {s : AS} (hf : f_X12_init_72 N l0 s = some r) : Le s r := by
  unfold f_X12_init_72 at hf
  obtain ⟨s17, es17, hf⟩ := ob hf
  refine Le.of (t := (s.1, s.2)) rfl ((le_nArr es17).tr ?_)
  exact Le.via (le_X12_init_78 hf) rfl
set_option maxRecDepth 20000 in
theorem zb_X12_init_72 {N : Nat} {r : AS} {E : EV} (hE : TG E none r)   {l0 : Nat} {s : AS} (hf : f_X12_init_72 N l0 s = some r) : Z E yX12_init cX12_init 2 none 1 s 72 [(0, .ref l0)] [] := by
  unfold f_X12_init_72 at hf
  refine z_aload_n 0 dX12_init_72 rfl rfl ?_
  refine z_sipush 150 150 dX12_init_73 (by decide) ?_
  refine z_na0 hf (fun _ hf => tg_le hE (le_X12_init_78 hf)) mw_2_13 dX12_init_76 (fun s17 hf => ?_)
  exact zb_X12_init_78 hE hf
set_option maxRecDepth 20000 in
theorem le_X12_init_69 {N : Nat} {r : AS}  {l0 : Nat} {t0 : Nat} {t1 : Nat} {s : AS} (hf : f_X12_init_69 N l0 t0 t1 s = some r) : Le s r := by
  unfold f_X12_init_69 at hf
  obtain ⟨s16, es16, hf⟩ := ob hf
  refine Le.of (t := (s.1, s.2)) rfl ((le_pP es16).tr ?_)
  exact Le.via (le_X12_init_72 hf) rfl
set_option maxRecDepth 20000 in
theorem zb_X12_init_69 {N : Nat} {r : AS} {E : EV} (hE : TG E none r)   {l0 : Nat} {t0 : Nat} {t1 : Nat} {s : AS} (hf : f_X12_init_69 N l0 t0 t1 s = some r) : Z E yX12_init cX12_init 2 none 1 s 69 [(0, .ref l0)] [.ref t1, .ref t0] := by
  unfold f_X12_init_69 at hf
  refine z_pP (ci := 12) (k := 13) (C := RX12) (T := TX12) (N := 32) rfl inlX12 (by decide) mw_7_3 (fun _ _ _ _ h9 => h9) tyX12 tyX12_ok nmX12 rfl rfl rfl hf (Or.inl (by decide)) rfl rfl rfl dX12_init_69 (fun s16 es16 hf => ?_)
  exact zb_X12_init_72 hE hf
set_option maxRecDepth 20000 in
theorem le_X12_init_64 {N : Nat} {r : AS}  {l0 : Nat} {s : AS} (hf : f_X12_init_64 N l0 s = some r) : Le s r := by
  unfold f_X12_init_64 at hf
  obtain ⟨s15, es15, hf⟩ := ob hf
  refine Le.of (t := (s.1, s.2)) rfl ((le_nArr es15).tr ?_)
  exact Le.via (le_X12_init_69 hf) rfl
set_option maxRecDepth 20000 in
theorem zb_X12_init_64 {N : Nat} {r : AS} {E : EV} (hE : TG E none r)   {l0 : Nat} {s : AS} (hf : f_X12_init_64 N l0 s = some r) : Z E yX12_init cX12_init 2 none 1 s 64 [(0, .ref l0)] [] := by
  unfold f_X12_init_64 at hf
  refine z_aload_n 0 dX12_init_64 rfl rfl ?_
  refine z_bipush 20 20 dX12_init_65 (by decide) ?_
  refine z_na2 hf (fun _ hf => tg_le hE (le_X12_init_69 hf)) mw_2_11 dX12_init_67 (fun s15 hf => ?_)
  exact zb_X12_init_69 hE hf
set_option maxRecDepth 20000 in
theorem le_X12_init_61 {N : Nat} {r : AS}  {l0 : Nat} {t0 : Nat} {t1 : Nat} {s : AS} (hf : f_X12_init_61 N l0 t0 t1 s = some r) : Le s r := by
  unfold f_X12_init_61 at hf
  obtain ⟨s14, es14, hf⟩ := ob hf
  refine Le.of (t := (s.1, s.2)) rfl ((le_pP es14).tr ?_)
  exact Le.via (le_X12_init_64 hf) rfl
set_option maxRecDepth 20000 in
theorem zb_X12_init_61 {N : Nat} {r : AS} {E : EV} (hE : TG E none r)   {l0 : Nat} {t0 : Nat} {t1 : Nat} {s : AS} (hf : f_X12_init_61 N l0 t0 t1 s = some r) : Z E yX12_init cX12_init 2 none 1 s 61 [(0, .ref l0)] [.ref t1, .ref t0] := by
  unfold f_X12_init_61 at hf
  refine z_pP (ci := 12) (k := 12) (C := RX12) (T := TX12) (N := 32) rfl inlX12 (by decide) mw_7_2 (fun _ _ _ _ h9 => h9) tyX12 tyX12_ok nmX12 rfl rfl rfl hf (Or.inl (by decide)) rfl rfl rfl dX12_init_61 (fun s14 es14 hf => ?_)
  exact zb_X12_init_64 hE hf
set_option maxRecDepth 20000 in
theorem le_X12_init_56 {N : Nat} {r : AS}  {l0 : Nat} {s : AS} (hf : f_X12_init_56 N l0 s = some r) : Le s r := by
  unfold f_X12_init_56 at hf
  obtain ⟨s13, es13, hf⟩ := ob hf
  refine Le.of (t := (s.1, s.2)) rfl ((le_nArr es13).tr ?_)
  exact Le.via (le_X12_init_61 hf) rfl
set_option maxRecDepth 20000 in
theorem zb_X12_init_56 {N : Nat} {r : AS} {E : EV} (hE : TG E none r)   {l0 : Nat} {s : AS} (hf : f_X12_init_56 N l0 s = some r) : Z E yX12_init cX12_init 2 none 1 s 56 [(0, .ref l0)] [] := by
  unfold f_X12_init_56 at hf
  refine z_aload_n 0 dX12_init_56 rfl rfl ?_
  refine z_bipush 20 20 dX12_init_57 (by decide) ?_
  refine z_na4 hf (fun _ hf => tg_le hE (le_X12_init_61 hf)) mw_7_1 dX12_init_59 (fun s13 hf => ?_)
  exact zb_X12_init_61 hE hf
set_option maxRecDepth 20000 in
theorem le_X12_init_53 {N : Nat} {r : AS}  {l0 : Nat} {t0 : Nat} {t1 : Nat} {s : AS} (hf : f_X12_init_53 N l0 t0 t1 s = some r) : Le s r := by
  unfold f_X12_init_53 at hf
  obtain ⟨s12, es12, hf⟩ := ob hf
  refine Le.of (t := (s.1, s.2)) rfl ((le_pP es12).tr ?_)
  exact Le.via (le_X12_init_56 hf) rfl
set_option maxRecDepth 20000 in
theorem zb_X12_init_53 {N : Nat} {r : AS} {E : EV} (hE : TG E none r)   {l0 : Nat} {t0 : Nat} {t1 : Nat} {s : AS} (hf : f_X12_init_53 N l0 t0 t1 s = some r) : Z E yX12_init cX12_init 2 none 1 s 53 [(0, .ref l0)] [.ref t1, .ref t0] := by
  unfold f_X12_init_53 at hf
  refine z_pP (ci := 12) (k := 11) (C := RX12) (T := TX12) (N := 32) rfl inlX12 (by decide) mw_7_0 (fun _ _ _ _ h9 => h9) tyX12 tyX12_ok nmX12 rfl rfl rfl hf (Or.inl (by decide)) rfl rfl rfl dX12_init_53 (fun s12 es12 hf => ?_)
  exact zb_X12_init_56 hE hf
set_option maxRecDepth 20000 in
theorem le_X12_init_47 {N : Nat} {r : AS}  {l0 : Nat} {s : AS} (hf : f_X12_init_47 N l0 s = some r) : Le s r := by
  unfold f_X12_init_47 at hf
  obtain ⟨s11, es11, hf⟩ := ob hf
  refine Le.of (t := (s.1, s.2)) rfl ((le_nArr es11).tr ?_)
  exact Le.via (le_X12_init_53 hf) rfl
set_option maxRecDepth 20000 in
theorem zb_X12_init_47 {N : Nat} {r : AS} {E : EV} (hE : TG E none r)   {l0 : Nat} {s : AS} (hf : f_X12_init_47 N l0 s = some r) : Z E yX12_init cX12_init 2 none 1 s 47 [(0, .ref l0)] [] := by
  unfold f_X12_init_47 at hf
  refine z_aload_n 0 dX12_init_47 rfl rfl ?_
  refine z_sipush 400 400 dX12_init_48 (by decide) ?_
  refine z_na0 hf (fun _ hf => tg_le hE (le_X12_init_53 hf)) mw_2_13 dX12_init_51 (fun s11 hf => ?_)
  exact zb_X12_init_53 hE hf
set_option maxRecDepth 20000 in
theorem le_X12_init_44 {N : Nat} {r : AS}  {l0 : Nat} {t0 : Nat} {t1 : Nat} {s : AS} (hf : f_X12_init_44 N l0 t0 t1 s = some r) : Le s r := by
  unfold f_X12_init_44 at hf
  obtain ⟨s10, es10, hf⟩ := ob hf
  refine Le.of (t := (s.1, s.2)) rfl ((le_pP es10).tr ?_)
  exact Le.via (le_X12_init_47 hf) rfl
set_option maxRecDepth 20000 in
theorem zb_X12_init_44 {N : Nat} {r : AS} {E : EV} (hE : TG E none r)   {l0 : Nat} {t0 : Nat} {t1 : Nat} {s : AS} (hf : f_X12_init_44 N l0 t0 t1 s = some r) : Z E yX12_init cX12_init 2 none 1 s 44 [(0, .ref l0)] [.ref t1, .ref t0] := by
  unfold f_X12_init_44 at hf
  refine z_pP (ci := 12) (k := 9) (C := RX12) (T := TX12) (N := 32) rfl inlX12 (by decide) mw_6_23 (fun _ _ _ _ h9 => h9) tyX12 tyX12_ok nmX12 rfl rfl rfl hf (Or.inl (by decide)) rfl rfl rfl dX12_init_44 (fun s10 es10 hf => ?_)
  exact zb_X12_init_47 hE hf
set_option maxRecDepth 20000 in
theorem le_X12_init_38 {N : Nat} {r : AS}  {l0 : Nat} {s : AS} (hf : f_X12_init_38 N l0 s = some r) : Le s r := by
  unfold f_X12_init_38 at hf
  obtain ⟨s9, es9, hf⟩ := ob hf
  refine Le.of (t := (s.1, s.2)) rfl ((le_nArr es9).tr ?_)
  exact Le.via (le_X12_init_44 hf) rfl
set_option maxRecDepth 20000 in
theorem zb_X12_init_38 {N : Nat} {r : AS} {E : EV} (hE : TG E none r)   {l0 : Nat} {s : AS} (hf : f_X12_init_38 N l0 s = some r) : Z E yX12_init cX12_init 2 none 1 s 38 [(0, .ref l0)] [] := by
  unfold f_X12_init_38 at hf
  refine z_aload_n 0 dX12_init_38 rfl rfl ?_
  refine z_sipush 3600 3600 dX12_init_39 (by decide) ?_
  refine z_na0 hf (fun _ hf => tg_le hE (le_X12_init_44 hf)) mw_2_13 dX12_init_42 (fun s9 hf => ?_)
  exact zb_X12_init_44 hE hf
set_option maxRecDepth 20000 in
theorem le_X12_init_35 {N : Nat} {r : AS}  {l0 : Nat} {t0 : Nat} {t1 : Nat} {s : AS} (hf : f_X12_init_35 N l0 t0 t1 s = some r) : Le s r := by
  unfold f_X12_init_35 at hf
  obtain ⟨s8, es8, hf⟩ := ob hf
  refine Le.of (t := (s.1, s.2)) rfl ((le_pP es8).tr ?_)
  exact Le.via (le_X12_init_38 hf) rfl
set_option maxRecDepth 20000 in
theorem zb_X12_init_35 {N : Nat} {r : AS} {E : EV} (hE : TG E none r)   {l0 : Nat} {t0 : Nat} {t1 : Nat} {s : AS} (hf : f_X12_init_35 N l0 t0 t1 s = some r) : Z E yX12_init cX12_init 2 none 1 s 35 [(0, .ref l0)] [.ref t1, .ref t0] := by
  unfold f_X12_init_35 at hf
  refine z_pP (ci := 12) (k := 7) (C := RX12) (T := TX12) (N := 32) rfl inlX12 (by decide) mw_6_22 (fun _ _ _ _ h9 => h9) tyX12 tyX12_ok nmX12 rfl rfl rfl hf (Or.inl (by decide)) rfl rfl rfl dX12_init_35 (fun s8 es8 hf => ?_)
  exact zb_X12_init_38 hE hf
set_option maxRecDepth 20000 in
theorem le_X12_init_29 {N : Nat} {r : AS}  {l0 : Nat} {s : AS} (hf : f_X12_init_29 N l0 s = some r) : Le s r := by
  unfold f_X12_init_29 at hf
  obtain ⟨s7, es7, hf⟩ := ob hf
  refine Le.of (t := (s.1, s.2)) rfl ((le_nArr es7).tr ?_)
  exact Le.via (le_X12_init_35 hf) rfl
set_option maxRecDepth 20000 in
theorem zb_X12_init_29 {N : Nat} {r : AS} {E : EV} (hE : TG E none r)   {l0 : Nat} {s : AS} (hf : f_X12_init_29 N l0 s = some r) : Z E yX12_init cX12_init 2 none 1 s 29 [(0, .ref l0)] [] := by
  unfold f_X12_init_29 at hf
  refine z_aload_n 0 dX12_init_29 rfl rfl ?_
  refine z_sipush 8000 8000 dX12_init_30 (by decide) ?_
  refine z_na3 hf (fun _ hf => tg_le hE (le_X12_init_35 hf)) mw_2_17 dX12_init_33 (fun s7 hf => ?_)
  exact zb_X12_init_35 hE hf
set_option maxRecDepth 20000 in
theorem le_X12_init_26 {N : Nat} {r : AS}  {l0 : Nat} {t0 : Nat} {t1 : Nat} {s : AS} (hf : f_X12_init_26 N l0 t0 t1 s = some r) : Le s r := by
  unfold f_X12_init_26 at hf
  obtain ⟨s6, es6, hf⟩ := ob hf
  refine Le.of (t := (s.1, s.2)) rfl ((le_pP es6).tr ?_)
  exact Le.via (le_X12_init_29 hf) rfl
set_option maxRecDepth 20000 in
theorem zb_X12_init_26 {N : Nat} {r : AS} {E : EV} (hE : TG E none r)   {l0 : Nat} {t0 : Nat} {t1 : Nat} {s : AS} (hf : f_X12_init_26 N l0 t0 t1 s = some r) : Z E yX12_init cX12_init 2 none 1 s 26 [(0, .ref l0)] [.ref t1, .ref t0] := by
  unfold f_X12_init_26 at hf
  refine z_pP (ci := 12) (k := 6) (C := RX12) (T := TX12) (N := 32) rfl inlX12 (by decide) mw_6_21 (fun _ _ _ _ h9 => h9) tyX12 tyX12_ok nmX12 rfl rfl rfl hf (Or.inl (by decide)) rfl rfl rfl dX12_init_26 (fun s6 es6 hf => ?_)
  exact zb_X12_init_29 hE hf
set_option maxRecDepth 20000 in
theorem le_X12_init_22 {N : Nat} {r : AS}  {l0 : Nat} {s : AS} (hf : f_X12_init_22 N l0 s = some r) : Le s r := by
  unfold f_X12_init_22 at hf
  obtain ⟨s5, es5, hf⟩ := ob hf
  refine Le.of (t := (s.1, s.2)) rfl ((le_nArr es5).tr ?_)
  exact Le.via (le_X12_init_26 hf) rfl
set_option maxRecDepth 20000 in
theorem zb_X12_init_22 {N : Nat} {r : AS} {E : EV} (hE : TG E none r)   {l0 : Nat} {s : AS} (hf : f_X12_init_22 N l0 s = some r) : Z E yX12_init cX12_init 2 none 1 s 22 [(0, .ref l0)] [] := by
  unfold f_X12_init_22 at hf
  refine z_aload_n 0 dX12_init_22 rfl rfl ?_
  refine z_iconst 5 5 dX12_init_23 (by decide) ?_
  refine z_na0 hf (fun _ hf => tg_le hE (le_X12_init_26 hf)) mw_2_13 dX12_init_24 (fun s5 hf => ?_)
  exact zb_X12_init_26 hE hf
set_option maxRecDepth 20000 in
theorem le_X12_init_19 {N : Nat} {r : AS}  {l0 : Nat} {t0 : Nat} {t1 : Nat} {s : AS} (hf : f_X12_init_19 N l0 t0 t1 s = some r) : Le s r := by
  unfold f_X12_init_19 at hf
  obtain ⟨s4, es4, hf⟩ := ob hf
  refine Le.of (t := (s.1, s.2)) rfl ((le_pP es4).tr ?_)
  exact Le.via (le_X12_init_22 hf) rfl
set_option maxRecDepth 20000 in
theorem zb_X12_init_19 {N : Nat} {r : AS} {E : EV} (hE : TG E none r)   {l0 : Nat} {t0 : Nat} {t1 : Nat} {s : AS} (hf : f_X12_init_19 N l0 t0 t1 s = some r) : Z E yX12_init cX12_init 2 none 1 s 19 [(0, .ref l0)] [.ref t1, .ref t0] := by
  unfold f_X12_init_19 at hf
  refine z_pP (ci := 12) (k := 1) (C := RX12) (T := TX12) (N := 32) rfl inlX12 (by decide) mw_6_20 (fun _ _ _ _ h9 => h9) tyX12 tyX12_ok nmX12 rfl rfl rfl hf (Or.inl (by decide)) rfl rfl rfl dX12_init_19 (fun s4 es4 hf => ?_)
  exact zb_X12_init_22 hE hf
set_option maxRecDepth 20000 in
theorem le_X12_init_13 {N : Nat} {r : AS}  {l0 : Nat} {s : AS} (hf : f_X12_init_13 N l0 s = some r) : Le s r := by
  unfold f_X12_init_13 at hf
  obtain ⟨s3, es3, hf⟩ := ob hf
  refine Le.of (t := (s.1, s.2)) rfl ((le_nArr es3).tr ?_)
  exact Le.via (le_X12_init_19 hf) rfl
set_option maxRecDepth 20000 in
theorem zb_X12_init_13 {N : Nat} {r : AS} {E : EV} (hE : TG E none r)   {l0 : Nat} {s : AS} (hf : f_X12_init_13 N l0 s = some r) : Z E yX12_init cX12_init 2 none 1 s 13 [(0, .ref l0)] [] := by
  unfold f_X12_init_13 at hf
  refine z_aload_n 0 dX12_init_13 rfl rfl ?_
  refine z_sipush 15642 15642 dX12_init_14 (by decide) ?_
  refine z_na0 hf (fun _ hf => tg_le hE (le_X12_init_19 hf)) mw_2_13 dX12_init_17 (fun s3 hf => ?_)
  exact zb_X12_init_19 hE hf
set_option maxRecDepth 20000 in
theorem le_X12_init_10 {N : Nat} {r : AS}  {l0 : Nat} {t0 : Nat} {t1 : Nat} {s : AS} (hf : f_X12_init_10 N l0 t0 t1 s = some r) : Le s r := by
  unfold f_X12_init_10 at hf
  obtain ⟨s2, es2, hf⟩ := ob hf
  refine Le.of (t := (s.1, s.2)) rfl ((le_pP es2).tr ?_)
  exact Le.via (le_X12_init_13 hf) rfl
set_option maxRecDepth 20000 in
theorem zb_X12_init_10 {N : Nat} {r : AS} {E : EV} (hE : TG E none r)   {l0 : Nat} {t0 : Nat} {t1 : Nat} {s : AS} (hf : f_X12_init_10 N l0 t0 t1 s = some r) : Z E yX12_init cX12_init 2 none 1 s 10 [(0, .ref l0)] [.ref t1, .ref t0] := by
  unfold f_X12_init_10 at hf
  refine z_pP (ci := 12) (k := 0) (C := RX12) (T := TX12) (N := 32) rfl inlX12 (by decide) mw_6_19 (fun _ _ _ _ h9 => h9) tyX12 tyX12_ok nmX12 rfl rfl rfl hf (Or.inl (by decide)) rfl rfl rfl dX12_init_10 (fun s2 es2 hf => ?_)
  exact zb_X12_init_13 hE hf
set_option maxRecDepth 20000 in
theorem lm_X12_init {N : Nat} {s : AS} {l0 : Nat} {r : AS} (hf : f_X12_init N l0 s = some r) : Le s r := by
  unfold f_X12_init at hf
  refine ite_c hf (fun hf => ?_) (fun hf => ?_)
  · skip
    obtain ⟨s1, es1, hf⟩ := ob hf
    refine Le.of (t := (s.1, s.2)) rfl ((le_nArr es1).tr ?_)
    exact Le.via (le_X12_init_10 hf) rfl
  · cases hf
set_option maxRecDepth 20000 in
theorem zm_X12_init {N : Nat} {s : AS} {l0 : Nat} {r : AS} (hf : f_X12_init N l0 s = some r) : isO s.1 l0 12 ∧ ∀ (l : Launch) (G : GG), Mt l G yX12_init cX12_init 2 none 1 [.ref l0] s none r := by
  have hf0 := hf
  unfold f_X12_init at hf
  refine ite_d hf (fun hO hf => ?_) (fun _ hf => ?_)
  · refine ⟨hO, fun l G => mt_of (Or.inl (by decide)) (Nat.le_of_ble_eq_true rfl) (lm_X12_init hf0) (fun E hE => ?_)⟩
    show Z E yX12_init cX12_init 2 none 1 s 0 [(0, .ref l0)] []
    refine z_aload_n 0 dX12_init_0 rfl rfl ?_
    refine z_objInit mw_6_18 mw_1_10 mw_1_11 (by decide) (Nat.le_of_ble_eq_true rfl) dX12_init_1 ?_
    refine z_aload_n 0 dX12_init_4 rfl rfl ?_
    refine z_sipush 15642 15642 dX12_init_5 (by decide) ?_
    refine z_na0 hf (fun _ hf => tg_le hE (le_X12_init_10 hf)) mw_2_13 dX12_init_8 (fun s1 hf => ?_)
    exact zb_X12_init_10 hE hf
  · cases hf
