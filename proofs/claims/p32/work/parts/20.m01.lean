set_option maxRecDepth 20000 in
theorem zb_X12_brings_146 {N : Nat} {sh : Sh} {r : Dt} {E : EV} (hE : TG E none (sh, r))   {d : Dt} (hf : f_X12_brings_146 N sh  d = some r) : Z E yX12_brings cX12_brings 7 none 1 (sh, d) 146 [] [] := by
  unfold f_X12_brings_146 at hf
  cases hf
  exact z_return hE rfl dX12_brings_146
set_option maxRecDepth 20000 in
theorem zg_X12_brings_75 {N : Nat} {sh : Sh} {r : Dt} {k75 : Nat → Int32 → Int32 → Int32 → Int32 → Dt → Option Dt} {E : EV} (hE : TG E none (sh, r))  (hk75 : ∀ (l0 : Nat) (l3 : Int32) (l4 : Int32) (l5 : Int32) (l6 : Int32) (d : Dt), k75 l0 l3 l4 l5 l6 d = some r → Z E yX12_brings cX12_brings 7 none 1 (sh, d) 75 [(0, .ref l0), (3, .int l3), (4, .int l4), (5, .int l5), (6, .int l6)] []) {l0 : Nat} {l3 : Int32} {l4 : Int32} {l5 : Int32} {l6 : Int32} {d : Dt} (hf : g_X12_brings_75 N sh k75 l0 l3 l4 l5 l6 d = some r) : Z E yX12_brings cX12_brings 7 none 1 (sh, d) 75 [(0, .ref l0), (3, .int l3), (4, .int l4), (5, .int l5), (6, .int l6)] [] := by
  unfold g_X12_brings_75 at hf
  refine z_iload 4 dX12_brings_75 rfl ?_
  refine z_iload 3 dX12_brings_77 rfl ?_
  refine z_icmp_ge 146 hf dX12_brings_79 (by decide) (fun hf => ?_) (fun hf => ?_)
  · refine z_lv [] [] rfl ?_
    exact zb_X12_brings_146 hE hf
  · refine z_aload_n 0 dX12_brings_82 rfl rfl ?_
    refine z_gP (ci := 12) (k := 0) (C := RX12) (T := TX12) (N := 32) rfl inlX12 (by decide) mw_6_19 (fun _ _ _ _ h9 => h9) hf (by decide) rfl dX12_brings_83  (fun v9 hf => ?_)
    refine z_sipush 1426 1426 dX12_brings_86 (by decide) ?_
    refine z_sipush 200 200 dX12_brings_89 (by decide) ?_
    refine z_iload_n 1 dX12_brings_92 rfl rfl ?_
    refine z_imul dX12_brings_93 ?_
    refine z_iadd dX12_brings_94 ?_
    refine z_iload 2 dX12_brings_95 rfl ?_
    refine z_iadd dX12_brings_97 ?_
    refine z_iload 4 dX12_brings_98 rfl ?_
    refine z_iadd dX12_brings_100 ?_
    refine z_aload_n 0 dX12_brings_101 rfl rfl ?_
    refine z_gP (ci := 12) (k := 11) (C := RX12) (T := TX12) (N := 32) rfl inlX12 (by decide) mw_7_0 (fun _ _ _ _ h9 => h9) hf (by decide) rfl dX12_brings_102  (fun v10 hf => ?_)
    refine z_iload 4 dX12_brings_105 rfl ?_
    refine z_aI hf dX12_brings_107  (fun v11 hf => ?_)
    refine z_sI hf dX12_brings_108  (fun d12 hf => ?_)
    refine z_aload_n 0 dX12_brings_109 rfl rfl ?_
    refine z_gP (ci := 12) (k := 0) (C := RX12) (T := TX12) (N := 32) rfl inlX12 (by decide) mw_6_19 (fun _ _ _ _ h9 => h9) hf (by decide) rfl dX12_brings_110  (fun v13 hf => ?_)
    refine z_sipush 5426 5426 dX12_brings_113 (by decide) ?_
    refine z_sipush 200 200 dX12_brings_116 (by decide) ?_
    refine z_iload_n 1 dX12_brings_119 rfl rfl ?_
    refine z_imul dX12_brings_120 ?_
    refine z_iadd dX12_brings_121 ?_
    refine z_iload 2 dX12_brings_122 rfl ?_
    refine z_iadd dX12_brings_124 ?_
    refine z_iload 4 dX12_brings_125 rfl ?_
    refine z_iadd dX12_brings_127 ?_
    refine z_aload_n 0 dX12_brings_128 rfl rfl ?_
    refine z_gP (ci := 12) (k := 11) (C := RX12) (T := TX12) (N := 32) rfl inlX12 (by decide) mw_7_0 (fun _ _ _ _ h9 => h9) hf (by decide) rfl dX12_brings_129  (fun v14 hf => ?_)
    refine z_sipush 200 200 dX12_brings_132 (by decide) ?_
    refine z_iload 4 dX12_brings_135 rfl ?_
    refine z_iadd dX12_brings_137 ?_
    refine z_aI hf dX12_brings_138  (fun v15 hf => ?_)
    refine z_sI hf dX12_brings_139  (fun d16 hf => ?_)
    refine z_iinc [(6, .int (l6 + 1)), (0, .ref l0), (3, .int l3), (4, .int l4), (5, .int l5)] 4 (l6 + 1) dX12_brings_140 rfl rfl (by decide) rfl ?_
    refine z_goto 75 dX12_brings_143 (by decide) ?_
    refine z_lv [(0, .ref l0), (3, .int l3), (4, .int l4), (5, .int l5), (6, .int (l6 + 1))] [1, 2, 3, 4, 0] rfl ?_
    exact hk75 _ _ _ _ _ _ hf
set_option maxRecDepth 20000 in
theorem zb_X12_brings_75 {N : Nat} {sh : Sh} {r : Dt} {E : EV} (hE : TG E none (sh, r))  : ∀ (n : Nat) (l0 : Nat) (l3 : Int32) (l4 : Int32) (l5 : Int32) (l6 : Int32) (d : Dt), f_X12_brings_75 N sh n l0 l3 l4 l5 l6 d = some r → Z E yX12_brings cX12_brings 7 none 1 (sh, d) 75 [(0, .ref l0), (3, .int l3), (4, .int l4), (5, .int l5), (6, .int l6)] [] := by
  intro n
  induction n with
  | zero => intro l0 l3 l4 l5 l6 d hf; cases hf
  | succ n ih => intro l0 l3 l4 l5 l6 d hf; exact zg_X12_brings_75 hE ih hf
set_option maxRecDepth 20000 in
theorem zb_X12_brings_72 {N : Nat} {sh : Sh} {r : Dt} {E : EV} (hE : TG E none (sh, r))  {l0 : Nat} {l3 : Int32} {l4 : Int32} {l5 : Int32} {d : Dt} (hf : f_X12_brings_72 N sh l0 l3 l4 l5 d = some r) : Z E yX12_brings cX12_brings 7 none 1 (sh, d) 72 [(0, .ref l0), (3, .int l3), (4, .int l4), (5, .int l5)] [] := by
  unfold f_X12_brings_72 at hf
  refine z_iconst 0 0 dX12_brings_72 (by decide) ?_
  refine z_istore [(6, .int (0 : Int32)), (0, .ref l0), (3, .int l3), (4, .int l4), (5, .int l5)] dX12_brings_73 (by decide) rfl ?_
  refine z_lv [(0, .ref l0), (3, .int l3), (4, .int l4), (5, .int l5), (6, .int (0 : Int32))] [1, 2, 3, 4, 0] rfl ?_
  exact zb_X12_brings_75 hE N _ _ _ _ _ _ hf
set_option maxRecDepth 20000 in
theorem zg_X12_brings_3 {N : Nat} {sh : Sh} {r : Dt} {k3 : Nat → Int32 → Int32 → Int32 → Int32 → Int32 → Int32 → Dt → Option Dt} {E : EV} (hE : TG E none (sh, r))  (hk3 : ∀ (l0 : Nat) (l1 : Int32) (l2 : Int32) (l3 : Int32) (l4 : Int32) (l5 : Int32) (l6 : Int32) (d : Dt), k3 l0 l1 l2 l3 l4 l5 l6 d = some r → Z E yX12_brings cX12_brings 7 none 1 (sh, d) 3 [(0, .ref l0), (1, .int l1), (2, .int l2), (3, .int l3), (4, .int l4), (5, .int l5), (6, .int l6)] []) {l0 : Nat} {l1 : Int32} {l2 : Int32} {l3 : Int32} {l4 : Int32} {l5 : Int32} {l6 : Int32} {d : Dt} (hf : g_X12_brings_3 N sh k3 l0 l1 l2 l3 l4 l5 l6 d = some r) : Z E yX12_brings cX12_brings 7 none 1 (sh, d) 3 [(0, .ref l0), (1, .int l1), (2, .int l2), (3, .int l3), (4, .int l4), (5, .int l5), (6, .int l6)] [] := by
  unfold g_X12_brings_3 at hf
  refine z_iload 6 dX12_brings_3 rfl ?_
  refine z_iload 5 dX12_brings_5 rfl ?_
  refine z_icmp_ge 72 hf dX12_brings_7 (by decide) (fun hf => ?_) (fun hf => ?_)
  · refine z_lv [(0, .ref l0), (3, .int l3), (4, .int l4), (5, .int l5)] [0, 3, 4, 5] rfl ?_
    exact zb_X12_brings_72 hE hf
  · refine z_aload_n 0 dX12_brings_10 rfl rfl ?_
    refine z_gP (ci := 12) (k := 11) (C := RX12) (T := TX12) (N := 32) rfl inlX12 (by decide) mw_7_0 (fun _ _ _ _ h9 => h9) hf (by decide) rfl dX12_brings_11  (fun v1 hf => ?_)
    refine z_iload 6 dX12_brings_14 rfl ?_
    refine z_aload_n 0 dX12_brings_16 rfl rfl ?_
    refine z_gP (ci := 12) (k := 0) (C := RX12) (T := TX12) (N := 32) rfl inlX12 (by decide) mw_6_19 (fun _ _ _ _ h9 => h9) hf (by decide) rfl dX12_brings_17  (fun v2 hf => ?_)
    refine z_sipush 1426 1426 dX12_brings_20 (by decide) ?_
    refine z_sipush 200 200 dX12_brings_23 (by decide) ?_
    refine z_iload_n 1 dX12_brings_26 rfl rfl ?_
    refine z_imul dX12_brings_27 ?_
    refine z_iadd dX12_brings_28 ?_
    refine z_iload_n 2 dX12_brings_29 rfl rfl ?_
    refine z_iadd dX12_brings_30 ?_
    refine z_iload 6 dX12_brings_31 rfl ?_
    refine z_iadd dX12_brings_33 ?_
    refine z_aI hf dX12_brings_34  (fun v3 hf => ?_)
    refine z_sI hf dX12_brings_35  (fun d4 hf => ?_)
    refine z_aload_n 0 dX12_brings_36 rfl rfl ?_
    refine z_gP (ci := 12) (k := 11) (C := RX12) (T := TX12) (N := 32) rfl inlX12 (by decide) mw_7_0 (fun _ _ _ _ h9 => h9) hf (by decide) rfl dX12_brings_37  (fun v5 hf => ?_)
    refine z_sipush 200 200 dX12_brings_40 (by decide) ?_
    refine z_iload 6 dX12_brings_43 rfl ?_
    refine z_iadd dX12_brings_45 ?_
    refine z_aload_n 0 dX12_brings_46 rfl rfl ?_
    refine z_gP (ci := 12) (k := 0) (C := RX12) (T := TX12) (N := 32) rfl inlX12 (by decide) mw_6_19 (fun _ _ _ _ h9 => h9) hf (by decide) rfl dX12_brings_47  (fun v6 hf => ?_)
    refine z_sipush 5426 5426 dX12_brings_50 (by decide) ?_
    refine z_sipush 200 200 dX12_brings_53 (by decide) ?_
    refine z_iload_n 1 dX12_brings_56 rfl rfl ?_
    refine z_imul dX12_brings_57 ?_
    refine z_iadd dX12_brings_58 ?_
    refine z_iload_n 2 dX12_brings_59 rfl rfl ?_
    refine z_iadd dX12_brings_60 ?_
    refine z_iload 6 dX12_brings_61 rfl ?_
    refine z_iadd dX12_brings_63 ?_
    refine z_aI hf dX12_brings_64  (fun v7 hf => ?_)
    refine z_sI hf dX12_brings_65  (fun d8 hf => ?_)
    refine z_iinc [(6, .int (l6 + 1)), (0, .ref l0), (1, .int l1), (2, .int l2), (3, .int l3), (4, .int l4), (5, .int l5)] 6 (l6 + 1) dX12_brings_66 rfl rfl (by decide) rfl ?_
    refine z_goto 3 dX12_brings_69 (by decide) ?_
    refine z_lv [(0, .ref l0), (1, .int l1), (2, .int l2), (3, .int l3), (4, .int l4), (5, .int l5), (6, .int (l6 + 1))] [1, 2, 3, 4, 5, 6, 0] rfl ?_
    exact hk3 _ _ _ _ _ _ _ _ hf
set_option maxRecDepth 20000 in
theorem zb_X12_brings_3 {N : Nat} {sh : Sh} {r : Dt} {E : EV} (hE : TG E none (sh, r))  : ∀ (n : Nat) (l0 : Nat) (l1 : Int32) (l2 : Int32) (l3 : Int32) (l4 : Int32) (l5 : Int32) (l6 : Int32) (d : Dt), f_X12_brings_3 N sh n l0 l1 l2 l3 l4 l5 l6 d = some r → Z E yX12_brings cX12_brings 7 none 1 (sh, d) 3 [(0, .ref l0), (1, .int l1), (2, .int l2), (3, .int l3), (4, .int l4), (5, .int l5), (6, .int l6)] [] := by
  intro n
  induction n with
  | zero => intro l0 l1 l2 l3 l4 l5 l6 d hf; cases hf
  | succ n ih => intro l0 l1 l2 l3 l4 l5 l6 d hf; exact zg_X12_brings_3 hE ih hf
set_option maxRecDepth 20000 in
theorem zm_X12_brings {N : Nat} {sh : Sh} {d : Dt} {l0 : Nat} {l1 : Int32} {l2 : Int32} {l3 : Int32} {l4 : Int32} {l5 : Int32} {r : Dt} (hf : f_X12_brings N sh l0 l1 l2 l3 l4 l5 d = some r) : isO sh l0 12 ∧ ∀ (l : Launch) (G : GG), Mt l G yX12_brings cX12_brings 7 none 1 [.ref l0, .int l1, .int l2, .int l3, .int l4, .int l5] (sh, d) none (sh, r) := by
  have hf0 := hf
  unfold f_X12_brings at hf
  refine ite_d hf (fun hO hf => ?_) (fun _ hf => ?_)
  · refine ⟨hO, fun l G => mt_of (Or.inl (by decide)) (Nat.le_of_ble_eq_true rfl) Le.rf (fun E hE => ?_)⟩
    show Z E yX12_brings cX12_brings 7 none 1 (sh, d) 0 [(0, .ref l0), (1, .int l1), (2, .int l2), (3, .int l3), (4, .int l4), (5, .int l5)] []
    refine z_iconst 0 0 dX12_brings_0 (by decide) ?_
    refine z_istore [(6, .int (0 : Int32)), (0, .ref l0), (1, .int l1), (2, .int l2), (3, .int l3), (4, .int l4), (5, .int l5)] dX12_brings_1 (by decide) rfl ?_
    refine z_lv [(0, .ref l0), (1, .int l1), (2, .int l2), (3, .int l3), (4, .int l4), (5, .int l5), (6, .int (0 : Int32))] [1, 2, 3, 4, 5, 6, 0] rfl ?_
    exact zb_X12_brings_3 hE N _ _ _ _ _ _ _ _ hf
  · cases hf
set_option maxRecDepth 20000 in
theorem zb_X12_comes_39 {N : Nat} {sh : Sh} {r : Int32 × Dt} {E : EV} (hE : TG E (some (.int r.1)) (sh, r.2))  {l0 : Nat} {l1 : Int32} {l2 : Int32} {l3 : Int32} {l4 : Int32} {l5 : Int32} {d : Dt} (hf : f_X12_comes_39 N sh l0 l1 l2 l3 l4 l5 d = some r) : Z E yX12_comes cX12_comes 7 (some .int) 2 (sh, d) 39 [(0, .ref l0), (1, .int l1), (2, .int l2), (3, .int l3), (4, .int l4), (5, .int l5)] [] := by
  unfold f_X12_comes_39 at hf
  refine z_aload_n 0 dX12_comes_39 rfl rfl ?_
  refine z_gP (ci := 12) (k := 0) (C := RX12) (T := TX12) (N := 32) rfl inlX12 (by decide) mw_6_19 (fun _ _ _ _ h9 => h9) hf (by decide) rfl dX12_comes_40  (fun v6 hf => ?_)
  refine z_iload 5 dX12_comes_43 rfl ?_
  refine z_iconst 0 0 dX12_comes_45 (by decide) ?_
  refine z_iadd dX12_comes_46 ?_
  refine z_iload_n 1 dX12_comes_47 rfl rfl ?_
  refine z_sI hf dX12_comes_48  (fun d7 hf => ?_)
  refine z_aload_n 0 dX12_comes_49 rfl rfl ?_
  refine z_gP (ci := 12) (k := 0) (C := RX12) (T := TX12) (N := 32) rfl inlX12 (by decide) mw_6_19 (fun _ _ _ _ h9 => h9) hf (by decide) rfl dX12_comes_50  (fun v8 hf => ?_)
  refine z_iload 5 dX12_comes_53 rfl ?_
  refine z_iconst 1 1 dX12_comes_55 (by decide) ?_
  refine z_iadd dX12_comes_56 ?_
  refine z_iload_n 2 dX12_comes_57 rfl rfl ?_
  refine z_sI hf dX12_comes_58  (fun d9 hf => ?_)
  refine z_aload_n 0 dX12_comes_59 rfl rfl ?_
  refine z_gP (ci := 12) (k := 0) (C := RX12) (T := TX12) (N := 32) rfl inlX12 (by decide) mw_6_19 (fun _ _ _ _ h9 => h9) hf (by decide) rfl dX12_comes_60  (fun v10 hf => ?_)
  refine z_iload 5 dX12_comes_63 rfl ?_
  refine z_iconst 3 3 dX12_comes_65 (by decide) ?_
  refine z_iadd dX12_comes_66 ?_
  refine z_iload_n 3 dX12_comes_67 rfl rfl ?_
  refine z_sI hf dX12_comes_68  (fun d11 hf => ?_)
  refine z_aload_n 0 dX12_comes_69 rfl rfl ?_
  refine z_gP (ci := 12) (k := 0) (C := RX12) (T := TX12) (N := 32) rfl inlX12 (by decide) mw_6_19 (fun _ _ _ _ h9 => h9) hf (by decide) rfl dX12_comes_70  (fun v12 hf => ?_)
  refine z_iload 5 dX12_comes_73 rfl ?_
  refine z_iconst 4 4 dX12_comes_75 (by decide) ?_
  refine z_iadd dX12_comes_76 ?_
  refine z_iload 4 dX12_comes_77 rfl ?_
  refine z_sI hf dX12_comes_79  (fun d13 hf => ?_)
  refine z_aload_n 0 dX12_comes_80 rfl rfl ?_
  refine z_gP (ci := 12) (k := 0) (C := RX12) (T := TX12) (N := 32) rfl inlX12 (by decide) mw_6_19 (fun _ _ _ _ h9 => h9) hf (by decide) rfl dX12_comes_81  (fun v14 hf => ?_)
  refine z_iconst 3 3 dX12_comes_84 (by decide) ?_
  refine z_dup2_11 dX12_comes_85 rfl rfl ?_
  refine z_aI hf dX12_comes_86  (fun v15 hf => ?_)
  refine z_iconst 1 1 dX12_comes_87 (by decide) ?_
  refine z_iadd dX12_comes_88 ?_
  refine z_sI hf dX12_comes_89  (fun d16 hf => ?_)
  refine z_aload_n 0 dX12_comes_90 rfl rfl ?_
  refine z_aload_n 0 dX12_comes_91 rfl rfl ?_
  refine z_gP (ci := 12) (k := 0) (C := RX12) (T := TX12) (N := 32) rfl inlX12 (by decide) mw_6_19 (fun _ _ _ _ h9 => h9) hf (by decide) rfl dX12_comes_92  (fun v17 hf => ?_)
  refine z_iconst 3 3 dX12_comes_95 (by decide) ?_
  refine z_aI hf dX12_comes_96  (fun v18 hf => ?_)
  refine z_iconst 1 1 dX12_comes_97 (by decide) ?_
  refine z_isub dX12_comes_98 ?_
  obtain ⟨v19, ev19, hf⟩ := ob hf
  refine z_cVi (ci := 12) (T := TX12) (N := 32) (As := [.int (v18 - (1 : Int32))]) (rest := []) (zm_X12_says ev19).2 (zm_X12_says ev19).1 (by decide) rfl (Or.inl rfl) mw_12_4 mw_12_5 mw_12_6 mw_1_5 mw_12_7 yk_X12_says (by decide) (by decide) rfl (Nat.le_of_ble_eq_true rfl) rfl dX12_comes_99 ?_
  cases hf
  exact z_ireturn hE rfl dX12_comes_102
set_option maxRecDepth 20000 in
theorem zg_X12_comes_15 {N : Nat} {sh : Sh} {r : Int32 × Dt} {k15 : Nat → Int32 → Int32 → Int32 → Int32 → Int32 → Int32 → Dt → Option (Int32 × Dt)} {E : EV} (hE : TG E (some (.int r.1)) (sh, r.2))  (hk15 : ∀ (l0 : Nat) (l1 : Int32) (l2 : Int32) (l3 : Int32) (l4 : Int32) (l5 : Int32) (l6 : Int32) (d : Dt), k15 l0 l1 l2 l3 l4 l5 l6 d = some r → Z E yX12_comes cX12_comes 7 (some .int) 2 (sh, d) 15 [(0, .ref l0), (1, .int l1), (2, .int l2), (3, .int l3), (4, .int l4), (5, .int l5), (6, .int l6)] []) {l0 : Nat} {l1 : Int32} {l2 : Int32} {l3 : Int32} {l4 : Int32} {l5 : Int32} {l6 : Int32} {d : Dt} (hf : g_X12_comes_15 N sh k15 l0 l1 l2 l3 l4 l5 l6 d = some r) : Z E yX12_comes cX12_comes 7 (some .int) 2 (sh, d) 15 [(0, .ref l0), (1, .int l1), (2, .int l2), (3, .int l3), (4, .int l4), (5, .int l5), (6, .int l6)] [] := by
  unfold g_X12_comes_15 at hf
  refine z_iload 6 dX12_comes_15 rfl ?_
  refine z_bipush 13 13 dX12_comes_17 (by decide) ?_
  refine z_icmp_ge 39 hf dX12_comes_19 (by decide) (fun hf => ?_) (fun hf => ?_)
  · refine z_lv [(0, .ref l0), (1, .int l1), (2, .int l2), (3, .int l3), (4, .int l4), (5, .int l5)] [0, 1, 2, 3, 4, 5] rfl ?_
    exact zb_X12_comes_39 hE hf
  · refine z_aload_n 0 dX12_comes_22 rfl rfl ?_
    refine z_gP (ci := 12) (k := 0) (C := RX12) (T := TX12) (N := 32) rfl inlX12 (by decide) mw_6_19 (fun _ _ _ _ h9 => h9) hf (by decide) rfl dX12_comes_23  (fun v4 hf => ?_)
    refine z_iload 5 dX12_comes_26 rfl ?_
    refine z_iload 6 dX12_comes_28 rfl ?_
    refine z_iadd dX12_comes_30 ?_
    refine z_iconst 0 0 dX12_comes_31 (by decide) ?_
    refine z_sI hf dX12_comes_32  (fun d5 hf => ?_)
    refine z_iinc [(6, .int (l6 + 1)), (0, .ref l0), (1, .int l1), (2, .int l2), (3, .int l3), (4, .int l4), (5, .int l5)] 6 (l6 + 1) dX12_comes_33 rfl rfl (by decide) rfl ?_
    refine z_goto 15 dX12_comes_36 (by decide) ?_
    refine z_lv [(0, .ref l0), (1, .int l1), (2, .int l2), (3, .int l3), (4, .int l4), (5, .int l5), (6, .int (l6 + 1))] [1, 2, 3, 4, 5, 6, 0] rfl ?_
    exact hk15 _ _ _ _ _ _ _ _ hf
set_option maxRecDepth 20000 in
theorem zb_X12_comes_15 {N : Nat} {sh : Sh} {r : Int32 × Dt} {E : EV} (hE : TG E (some (.int r.1)) (sh, r.2))  : ∀ (n : Nat) (l0 : Nat) (l1 : Int32) (l2 : Int32) (l3 : Int32) (l4 : Int32) (l5 : Int32) (l6 : Int32) (d : Dt), f_X12_comes_15 N sh n l0 l1 l2 l3 l4 l5 l6 d = some r → Z E yX12_comes cX12_comes 7 (some .int) 2 (sh, d) 15 [(0, .ref l0), (1, .int l1), (2, .int l2), (3, .int l3), (4, .int l4), (5, .int l5), (6, .int l6)] [] := by
  intro n
  induction n with
  | zero => intro l0 l1 l2 l3 l4 l5 l6 d hf; cases hf
  | succ n ih => intro l0 l1 l2 l3 l4 l5 l6 d hf; exact zg_X12_comes_15 hE ih hf
set_option maxRecDepth 20000 in
theorem zm_X12_comes {N : Nat} {sh : Sh} {d : Dt} {l0 : Nat} {l1 : Int32} {l2 : Int32} {l3 : Int32} {l4 : Int32} {r : Int32 × Dt} (hf : f_X12_comes N sh l0 l1 l2 l3 l4 d = some r) : isO sh l0 12 ∧ ∀ (l : Launch) (G : GG), Mt l G yX12_comes cX12_comes 7 (some .int) 2 [.ref l0, .int l1, .int l2, .int l3, .int l4] (sh, d) (some (.int r.1)) (sh, r.2) := by
  have hf0 := hf
  unfold f_X12_comes at hf
  refine ite_d hf (fun hO hf => ?_) (fun _ hf => ?_)
  · refine ⟨hO, fun l G => mt_of (Or.inl (by decide)) (Nat.le_of_ble_eq_true rfl) Le.rf (fun E hE => ?_)⟩
    show Z E yX12_comes cX12_comes 7 (some .int) 2 (sh, d) 0 [(0, .ref l0), (1, .int l1), (2, .int l2), (3, .int l3), (4, .int l4)] []
    refine z_aload_n 0 dX12_comes_0 rfl rfl ?_
    refine z_aload_n 0 dX12_comes_1 rfl rfl ?_
    refine z_gP (ci := 12) (k := 0) (C := RX12) (T := TX12) (N := 32) rfl inlX12 (by decide) mw_6_19 (fun _ _ _ _ h9 => h9) hf (by decide) rfl dX12_comes_2  (fun v1 hf => ?_)
    refine z_iconst 3 3 dX12_comes_5 (by decide) ?_
    refine z_aI hf dX12_comes_6  (fun v2 hf => ?_)
    obtain ⟨v3, ev3, hf⟩ := ob hf
    refine z_cVi (ci := 12) (T := TX12) (N := 32) (As := [.int v2]) (rest := []) (zm_X12_pl ev3).2 (zm_X12_pl ev3).1 (by decide) rfl (Or.inl rfl) mw_31_6 mw_31_7 mw_31_8 mw_1_5 mw_31_9 yk_X12_pl (by decide) (by decide) rfl (Nat.le_of_ble_eq_true rfl) rfl dX12_comes_7 ?_
    refine z_istore [(5, .int v3), (0, .ref l0), (1, .int l1), (2, .int l2), (3, .int l3), (4, .int l4)] dX12_comes_10 (by decide) rfl ?_
    refine z_iconst 0 0 dX12_comes_12 (by decide) ?_
    refine z_istore [(6, .int (0 : Int32)), (5, .int v3), (0, .ref l0), (1, .int l1), (2, .int l2), (3, .int l3), (4, .int l4)] dX12_comes_13 (by decide) rfl ?_
    refine z_lv [(0, .ref l0), (1, .int l1), (2, .int l2), (3, .int l3), (4, .int l4), (5, .int v3), (6, .int (0 : Int32))] [2, 3, 4, 5, 6, 1, 0] rfl ?_
    exact zb_X12_comes_15 hE N _ _ _ _ _ _ _ _ hf
  · cases hf
set_option maxRecDepth 20000 in
theorem zb_X12_keeps_27 {N : Nat} {sh : Sh} {r : Dt} {E : EV} (hE : TG E none (sh, r))  {l0 : Nat} {d : Dt} (hf : f_X12_keeps_27 N sh l0 d = some r) : Z E yX12_keeps cX12_keeps 2 none 1 (sh, d) 27 [(0, .ref l0)] [] := by
  unfold f_X12_keeps_27 at hf
  refine z_aload_n 0 dX12_keeps_27 rfl rfl ?_
  refine z_iconst 1 1 dX12_keeps_28 (by decide) ?_
  refine z_pI (ci := 12) (k := 2) (C := RX12) (T := TX12) (N := 32) rfl inlX12 (by decide) mw_12_3 (fun _ _ _ _ h9 => h9) tyX12 tyX12_ok nmX12 rfl hf (Or.inl (by decide)) rfl rfl rfl dX12_keeps_29  (fun d5 hf => ?_)
  cases hf
  exact z_return hE rfl dX12_keeps_32
set_option maxRecDepth 20000 in
theorem zg_X12_keeps_2 {N : Nat} {sh : Sh} {r : Dt} {k2 : Nat → Int32 → Dt → Option Dt} {E : EV} (hE : TG E none (sh, r))  (hk2 : ∀ (l0 : Nat) (l1 : Int32) (d : Dt), k2 l0 l1 d = some r → Z E yX12_keeps cX12_keeps 2 none 1 (sh, d) 2 [(0, .ref l0), (1, .int l1)] []) {l0 : Nat} {l1 : Int32} {d : Dt} (hf : g_X12_keeps_2 N sh k2 l0 l1 d = some r) : Z E yX12_keeps cX12_keeps 2 none 1 (sh, d) 2 [(0, .ref l0), (1, .int l1)] [] := by
  unfold g_X12_keeps_2 at hf
  refine z_iload_n 1 dX12_keeps_2 rfl rfl ?_
  refine z_sipush 15642 15642 dX12_keeps_3 (by decide) ?_
  refine z_icmp_ge 27 hf dX12_keeps_6 (by decide) (fun hf => ?_) (fun hf => ?_)
  · refine z_lv [(0, .ref l0)] [0] rfl ?_
    exact zb_X12_keeps_27 hE hf
  · refine z_aload_n 0 dX12_keeps_9 rfl rfl ?_
    refine z_gP (ci := 12) (k := 1) (C := RX12) (T := TX12) (N := 32) rfl inlX12 (by decide) mw_6_20 (fun _ _ _ _ h9 => h9) hf (by decide) rfl dX12_keeps_10  (fun v1 hf => ?_)
    refine z_iload_n 1 dX12_keeps_13 rfl rfl ?_
    refine z_aload_n 0 dX12_keeps_14 rfl rfl ?_
    refine z_gP (ci := 12) (k := 0) (C := RX12) (T := TX12) (N := 32) rfl inlX12 (by decide) mw_6_19 (fun _ _ _ _ h9 => h9) hf (by decide) rfl dX12_keeps_15  (fun v2 hf => ?_)
    refine z_iload_n 1 dX12_keeps_18 rfl rfl ?_
    refine z_aI hf dX12_keeps_19  (fun v3 hf => ?_)
    refine z_sI hf dX12_keeps_20  (fun d4 hf => ?_)
    refine z_iinc [(1, .int (l1 + 1)), (0, .ref l0)] 1 (l1 + 1) dX12_keeps_21 rfl rfl (by decide) rfl ?_
    refine z_goto 2 dX12_keeps_24 (by decide) ?_
    refine z_lv [(0, .ref l0), (1, .int (l1 + 1))] [1, 0] rfl ?_
    exact hk2 _ _ _ hf
set_option maxRecDepth 20000 in
theorem zb_X12_keeps_2 {N : Nat} {sh : Sh} {r : Dt} {E : EV} (hE : TG E none (sh, r))  : ∀ (n : Nat) (l0 : Nat) (l1 : Int32) (d : Dt), f_X12_keeps_2 N sh n l0 l1 d = some r → Z E yX12_keeps cX12_keeps 2 none 1 (sh, d) 2 [(0, .ref l0), (1, .int l1)] [] := by
  intro n
  induction n with
  | zero => intro l0 l1 d hf; cases hf
  | succ n ih => intro l0 l1 d hf; exact zg_X12_keeps_2 hE ih hf
set_option maxRecDepth 20000 in
theorem zm_X12_keeps {N : Nat} {sh : Sh} {d : Dt} {l0 : Nat} {r : Dt} (hf : f_X12_keeps N sh l0 d = some r) : isO sh l0 12 ∧ ∀ (l : Launch) (G : GG), Mt l G yX12_keeps cX12_keeps 2 none 1 [.ref l0] (sh, d) none (sh, r) := by
  have hf0 := hf
  unfold f_X12_keeps at hf
  refine ite_d hf (fun hO hf => ?_) (fun _ hf => ?_)
  · refine ⟨hO, fun l G => mt_of (Or.inl (by decide)) (Nat.le_of_ble_eq_true rfl) Le.rf (fun E hE => ?_)⟩
    show Z E yX12_keeps cX12_keeps 2 none 1 (sh, d) 0 [(0, .ref l0)] []
    refine z_iconst 0 0 dX12_keeps_0 (by decide) ?_
    refine z_istore_n [(1, .int (0 : Int32)), (0, .ref l0)] dX12_keeps_1 rfl (by decide) rfl ?_
    refine z_lv [(0, .ref l0), (1, .int (0 : Int32))] [1, 0] rfl ?_
    exact zb_X12_keeps_2 hE N _ _ _ hf
  · cases hf
set_option maxRecDepth 20000 in
theorem zb_X12_copies_66 {N : Nat} {sh : Sh} {r : Int32 × Dt} {E : EV} (hE : TG E (some (.int r.1)) (sh, r.2))  {l0 : Nat} {l4 : Int32} {l5 : Int32} {d : Dt} (hf : f_X12_copies_66 N sh l0 l4 l5 d = some r) : Z E yX12_copies cX12_copies 6 (some .int) 3 (sh, d) 66 [(0, .ref l0), (4, .int l4), (5, .int l5)] [] := by
  unfold f_X12_copies_66 at hf
  refine z_aload_n 0 dX12_copies_66 rfl rfl ?_
  refine z_iload 2 dX12_copies_67 rfl ?_
  obtain ⟨v5, ev5, hf⟩ := ob hf
  refine z_cVv (ci := 12) (T := TX12) (N := 32) (As := [.int l5]) (rest := []) (zm_X12_finds ev5).2 (zm_X12_finds ev5).1 (by decide) rfl (Or.inl rfl) mw_11_19 mw_11_20 mw_11_21 mw_1_5 mw_11_22 yk_X12_finds (by decide) (by decide) rfl (Nat.le_of_ble_eq_true rfl) rfl dX12_copies_69 ?_
  refine z_aload_n 0 dX12_copies_72 rfl rfl ?_
  refine z_iload 2 dX12_copies_73 rfl ?_
  refine z_pI (ci := 12) (k := 3) (C := RX12) (T := TX12) (N := 32) rfl inlX12 (by decide) mw_11_18 (fun _ _ _ _ h9 => h9) tyX12 tyX12_ok nmX12 rfl hf (Or.inl (by decide)) rfl rfl rfl dX12_copies_75  (fun d6 hf => ?_)
  refine z_iload 1 dX12_copies_78 rfl ?_
  cases hf
  exact z_ireturn hE rfl dX12_copies_80
set_option maxRecDepth 20000 in
theorem zb_X12_copies_49 {N : Nat} {sh : Sh} {k6 : Nat → Int32 → Int32 → Int32 → Int32 → Int32 → Dt → Option (Int32 × Dt)} {r : Int32 × Dt} {E : EV} (hE : TG E (some (.int r.1)) (sh, r.2)) (hk6 : ∀ (l0 : Nat) (l1 : Int32) (l2 : Int32) (l3 : Int32) (l4 : Int32) (l5 : Int32) (d : Dt), k6 l0 l1 l2 l3 l4 l5 d = some r → Z E yX12_copies cX12_copies 6 (some .int) 3 (sh, d) 6 [(0, .ref l0), (1, .int l1), (2, .int l2), (3, .int l3), (4, .int l4), (5, .int l5)] []) {l0 : Nat} {l1 : Int32} {l2 : Int32} {l3 : Int32} {l4 : Int32} {l5 : Int32} {d : Dt} (hf : f_X12_copies_49 N sh k6 l0 l1 l2 l3 l4 l5 d = some r) : Z E yX12_copies cX12_copies 6 (some .int) 3 (sh, d) 49 [(0, .ref l0), (1, .int l1), (2, .int l2), (3, .int l3), (4, .int l4), (5, .int l5)] [] := by
  unfold f_X12_copies_49 at hf
  refine z_aload_n 0 dX12_copies_49 rfl rfl ?_
  refine z_iload 4 dX12_copies_50 rfl ?_
  refine z_iload_n 1 dX12_copies_52 rfl rfl ?_
  refine z_iload 4 dX12_copies_53 rfl ?_
  refine z_iload_n 2 dX12_copies_55 rfl rfl ?_
  refine z_iload_n 3 dX12_copies_56 rfl rfl ?_
  obtain ⟨v7, ev7, hf⟩ := ob hf
  refine z_cVv (ci := 12) (T := TX12) (N := 32) (As := [.int l4, .int l1, .int l4, .int l2, .int l3]) (rest := []) (zm_X12_brings ev7).2 (zm_X12_brings ev7).1 (by decide) rfl (Or.inl rfl) mw_26_14 mw_26_15 mw_26_16 mw_1_5 mw_26_17 yk_X12_brings (by decide) (by decide) rfl (Nat.le_of_ble_eq_true rfl) rfl dX12_copies_57 ?_
  refine z_iinc [(4, .int (l4 + 1)), (0, .ref l0), (1, .int l1), (2, .int l2), (3, .int l3), (5, .int l5)] 4 (l4 + 1) dX12_copies_60 rfl rfl (by decide) rfl ?_
  refine z_goto 6 dX12_copies_63 (by decide) ?_
  refine z_lv [(0, .ref l0), (1, .int l1), (2, .int l2), (3, .int l3), (4, .int (l4 + 1)), (5, .int l5)] [1, 2, 3, 4, 0, 5] rfl ?_
  exact hk6 _ _ _ _ _ _ _ hf
set_option maxRecDepth 20000 in
theorem zg_X12_copies_6 {N : Nat} {sh : Sh} {r : Int32 × Dt} {k6 : Nat → Int32 → Int32 → Int32 → Int32 → Int32 → Dt → Option (Int32 × Dt)} {E : EV} (hE : TG E (some (.int r.1)) (sh, r.2))  (hk6 : ∀ (l0 : Nat) (l1 : Int32) (l2 : Int32) (l3 : Int32) (l4 : Int32) (l5 : Int32) (d : Dt), k6 l0 l1 l2 l3 l4 l5 d = some r → Z E yX12_copies cX12_copies 6 (some .int) 3 (sh, d) 6 [(0, .ref l0), (1, .int l1), (2, .int l2), (3, .int l3), (4, .int l4), (5, .int l5)] []) {l0 : Nat} {l1 : Int32} {l2 : Int32} {l3 : Int32} {l4 : Int32} {l5 : Int32} {d : Dt} (hf : g_X12_copies_6 N sh k6 l0 l1 l2 l3 l4 l5 d = some r) : Z E yX12_copies cX12_copies 6 (some .int) 3 (sh, d) 6 [(0, .ref l0), (1, .int l1), (2, .int l2), (3, .int l3), (4, .int l4), (5, .int l5)] [] := by
  unfold g_X12_copies_6 at hf
  refine z_iload 4 dX12_copies_6 rfl ?_
  refine z_aload_n 0 dX12_copies_8 rfl rfl ?_
  refine z_gP (ci := 12) (k := 0) (C := RX12) (T := TX12) (N := 32) rfl inlX12 (by decide) mw_6_19 (fun _ _ _ _ h9 => h9) hf (by decide) rfl dX12_copies_9  (fun v1 hf => ?_)
  refine z_iconst 2 2 dX12_copies_12 (by decide) ?_
  refine z_aI hf dX12_copies_13  (fun v2 hf => ?_)
  refine z_icmp_ge 66 hf dX12_copies_14 (by decide) (fun hf => ?_) (fun hf => ?_)
  · refine z_lv [(0, .ref l0), (4, .int l4), (5, .int l5)] [0, 4, 5] rfl ?_
    exact zb_X12_copies_66 hE hf
  · refine z_iload 5 dX12_copies_17 rfl ?_
    refine z_if_ne 66 hf dX12_copies_19 (by decide) (fun hf => ?_) (fun hf => ?_)
    · refine z_lv [(0, .ref l0), (4, .int l4), (5, .int l5)] [0, 4, 5] rfl ?_
      exact zb_X12_copies_66 hE hf
    · refine z_aload_n 0 dX12_copies_22 rfl rfl ?_
      refine z_iload 4 dX12_copies_23 rfl ?_
      refine z_iload_n 1 dX12_copies_25 rfl rfl ?_
      refine z_iload 4 dX12_copies_26 rfl ?_
      refine z_iload_n 2 dX12_copies_28 rfl rfl ?_
      refine z_iload_n 3 dX12_copies_29 rfl rfl ?_
      obtain ⟨v3, ev3, hf⟩ := ob hf
      refine z_cVi (ci := 12) (T := TX12) (N := 32) (As := [.int l4, .int l1, .int l4, .int l2, .int l3]) (rest := []) (zm_X12_against ev3).2 (zm_X12_against ev3).1 (by decide) rfl (Or.inl rfl) mw_26_10 mw_26_11 mw_26_12 mw_1_5 mw_26_13 yk_X12_against (by decide) (by decide) rfl (Nat.le_of_ble_eq_true rfl) rfl dX12_copies_30 ?_
      refine z_istore [(5, .int v3), (0, .ref l0), (1, .int l1), (2, .int l2), (3, .int l3), (4, .int l4)] dX12_copies_33 (by decide) rfl ?_
      refine z_iload 0 dX12_copies_35 rfl ?_
      refine z_if_ne 6 hf dX12_copies_37 (by decide) (fun hf => ?_) (fun hf => ?_)
      · refine z_lv [(0, .ref l0), (1, .int l1), (2, .int l2), (3, .int l3), (4, .int l4), (5, .int v3)] [1, 2, 3, 4, 5, 0] rfl ?_
        exact hk6 _ _ _ _ _ _ _ hf
      · refine z_iload 5 dX12_copies_40 rfl ?_
        refine z_if_ne 49 hf dX12_copies_42 (by decide) (fun hf => ?_) (fun hf => ?_)
        · refine z_lv [(0, .ref l0), (1, .int l1), (2, .int l2), (3, .int l3), (4, .int l4), (5, .int v3)] [1, 2, 3, 4, 5, 0] rfl ?_
          exact zb_X12_copies_49 hE hk6 hf
        · refine z_aload_n 1 dX12_copies_45 rfl rfl ?_
          obtain ⟨v4, ev4, hf⟩ := ob hf
          refine z_cVv (ci := 12) (T := TX12) (N := 32) (As := []) (rest := []) (zm_X12_keeps ev4).2 (zm_X12_keeps ev4).1 (by decide) rfl (Or.inl rfl) mw_11_23 mw_12_0 mw_12_1 mw_1_5 mw_12_2 yk_X12_keeps (by decide) (by decide) rfl (Nat.le_of_ble_eq_true rfl) rfl dX12_copies_46 ?_
          refine z_lv [(0, .ref l0), (1, .int l1), (2, .int l2), (3, .int l3), (4, .int l4), (5, .int v3)] [1, 2, 3, 4, 5, 0] rfl ?_
          exact zb_X12_copies_49 hE hk6 hf
set_option maxRecDepth 20000 in
theorem zb_X12_copies_6 {N : Nat} {sh : Sh} {r : Int32 × Dt} {E : EV} (hE : TG E (some (.int r.1)) (sh, r.2))  : ∀ (n : Nat) (l0 : Nat) (l1 : Int32) (l2 : Int32) (l3 : Int32) (l4 : Int32) (l5 : Int32) (d : Dt), f_X12_copies_6 N sh n l0 l1 l2 l3 l4 l5 d = some r → Z E yX12_copies cX12_copies 6 (some .int) 3 (sh, d) 6 [(0, .ref l0), (1, .int l1), (2, .int l2), (3, .int l3), (4, .int l4), (5, .int l5)] [] := by
  intro n
  induction n with
  | zero => intro l0 l1 l2 l3 l4 l5 d hf; cases hf
  | succ n ih => intro l0 l1 l2 l3 l4 l5 d hf; exact zg_X12_copies_6 hE ih hf
set_option maxRecDepth 20000 in
theorem zm_X12_copies {N : Nat} {sh : Sh} {d : Dt} {l0 : Nat} {l1 : Int32} {l2 : Int32} {l3 : Int32} {r : Int32 × Dt} (hf : f_X12_copies N sh l0 l1 l2 l3 d = some r) : isO sh l0 12 ∧ ∀ (l : Launch) (G : GG), Mt l G yX12_copies cX12_copies 6 (some .int) 3 [.ref l0, .int l1, .int l2, .int l3] (sh, d) (some (.int r.1)) (sh, r.2) := by
  have hf0 := hf
  unfold f_X12_copies at hf
  refine ite_d hf (fun hO hf => ?_) (fun _ hf => ?_)
  · refine ⟨hO, fun l G => mt_of (Or.inl (by decide)) (Nat.le_of_ble_eq_true rfl) Le.rf (fun E hE => ?_)⟩
    show Z E yX12_copies cX12_copies 6 (some .int) 3 (sh, d) 0 [(0, .ref l0), (1, .int l1), (2, .int l2), (3, .int l3)] []
    refine z_iconst 0 0 dX12_copies_0 (by decide) ?_
    refine z_istore [(4, .int (0 : Int32)), (0, .ref l0), (1, .int l1), (2, .int l2), (3, .int l3)] dX12_copies_1 (by decide) rfl ?_
    refine z_iconst 0 0 dX12_copies_3 (by decide) ?_
    refine z_istore [(5, .int (0 : Int32)), (4, .int (0 : Int32)), (0, .ref l0), (1, .int l1), (2, .int l2), (3, .int l3)] dX12_copies_4 (by decide) rfl ?_
    refine z_lv [(0, .ref l0), (1, .int l1), (2, .int l2), (3, .int l3), (4, .int (0 : Int32)), (5, .int (0 : Int32))] [2, 3, 4, 5, 1, 0] rfl ?_
    exact zb_X12_copies_6 hE N _ _ _ _ _ _ _ hf
  · cases hf
set_option maxRecDepth 20000 in
theorem zm_X12_isGauge {N : Nat} {sh : Sh} {d : Dt} {l0 : Nat} {l1 : Int32} {r : Int32} (hf : f_X12_isGauge N sh l0 l1 d = some r) : isO sh l0 12 ∧ ∀ (l : Launch) (G : GG), Mt l G yX12_isGauge cX12_isGauge 2 (some .boolean) 2 [.ref l0, .int l1] (sh, d) (some (.int r)) (sh, d) := by
  have hf0 := hf
  unfold f_X12_isGauge at hf
  refine ite_d hf (fun hO hf => ?_) (fun _ hf => ?_)
  · refine ⟨hO, fun l G => mt_of (Or.inl (by decide)) (Nat.le_of_ble_eq_true rfl) Le.rf (fun E hE => ?_)⟩
    show Z E yX12_isGauge cX12_isGauge 2 (some .boolean) 2 (sh, d) 0 [(0, .ref l0), (1, .int l1)] []
    refine z_iload_n 1 dX12_isGauge_0 rfl rfl ?_
    refine z_iconst 0 0 dX12_isGauge_1 (by decide) ?_
    refine z_aload_n 0 dX12_isGauge_2 rfl rfl ?_
    refine z_gP (ci := 12) (k := 0) (C := RX12) (T := TX12) (N := 32) rfl inlX12 (by decide) mw_6_19 (fun _ _ _ _ h9 => h9) hf (by decide) rfl dX12_isGauge_3  (fun v1 hf => ?_)
    refine z_iconst 2 2 dX12_isGauge_6 (by decide) ?_
    refine z_aI hf dX12_isGauge_7  (fun v2 hf => ?_)
    refine z_iconst 1 1 dX12_isGauge_8 (by decide) ?_
    refine z_isub dX12_isGauge_9 ?_
    obtain ⟨v3, ev3, hf⟩ := ob hf
    refine z_cTi (As := [.int l1, .int (0 : Int32), .int (v2 - (1 : Int32))]) (rest := []) (zm_X12_in ev3) (Or.inl rfl) mw_11_11 mw_11_12 mw_1_5 mw_11_13 yk_X12_in (by decide) (by decide) rfl (Nat.le_of_ble_eq_true rfl) rfl dX12_isGauge_10 ?_
    obtain ⟨v4, ev4, hg⟩ := ob hf
    obtain ⟨rfl, hbv4⟩ := o_bool_spec ev4
    cases hg
    exact z_zreturn hE rfl hbv4 dX12_isGauge_13
  · cases hf
set_option maxRecDepth 20000 in
theorem zb_X12_copy_43 {N : Nat} {sh : Sh} {r : Int32 × Dt} {E : EV} (hE : TG E (some (.int r.1)) (sh, r.2))  {l0 : Nat} {d : Dt} (hf : f_X12_copy_43 N sh l0 d = some r) : Z E yX12_copy cX12_copy 7 (some .int) 3 (sh, d) 43 [(0, .ref l0)] [] := by
  unfold f_X12_copy_43 at hf
  refine z_aload_n 0 dX12_copy_43 rfl rfl ?_
  refine z_bipush (-2) (-2) dX12_copy_44 (by decide) ?_
  obtain ⟨v14, ev14, hf⟩ := ob hf
  refine z_cVi (ci := 12) (T := TX12) (N := 32) (As := [.int (-2 : Int32)]) (rest := []) (zm_X12_refuses ev14).2 (zm_X12_refuses ev14).1 (by decide) rfl (Or.inl rfl) mw_11_14 mw_11_15 mw_11_16 mw_1_5 mw_11_17 yk_X12_refuses (by decide) (by decide) rfl (Nat.le_of_ble_eq_true rfl) rfl dX12_copy_46 ?_
  cases hf
  exact z_ireturn hE rfl dX12_copy_49
set_option maxRecDepth 20000 in
theorem zm_X12_copy {N : Nat} {sh : Sh} {d : Dt} {l0 : Nat} {l1 : Int32} {l2 : Int32} {l3 : Int32} {l4 : Int32} {l5 : Int32} {r : Int32 × Dt} (hf : f_X12_copy N sh l0 l1 l2 l3 l4 l5 d = some r) : isO sh l0 12 ∧ ∀ (l : Launch) (G : GG), Mt l G yX12_copy cX12_copy 7 (some .int) 3 [.ref l0, .int l1, .int l2, .int l3, .int l4, .int l5] (sh, d) (some (.int r.1)) (sh, r.2) := by
  have hf0 := hf
  unfold f_X12_copy at hf
  refine ite_d hf (fun hO hf => ?_) (fun _ hf => ?_)
  · refine ⟨hO, fun l G => mt_of (Or.inl (by decide)) (Nat.le_of_ble_eq_true rfl) Le.rf (fun E hE => ?_)⟩
    show Z E yX12_copy cX12_copy 7 (some .int) 3 (sh, d) 0 [(0, .ref l0), (1, .int l1), (2, .int l2), (3, .int l3), (4, .int l4), (5, .int l5)] []
    refine z_aload_n 0 dX12_copy_0 rfl rfl ?_
    refine z_iload_n 1 dX12_copy_1 rfl rfl ?_
    obtain ⟨v1, ev1, hf⟩ := ob hf
    refine z_cVi (ci := 12) (T := TX12) (N := 32) (As := [.int l1]) (rest := []) (zm_X12_isGauge ev1).2 (zm_X12_isGauge ev1).1 (by decide) rfl (Or.inl rfl) mw_21_9 mw_21_10 mw_21_11 mw_1_5 mw_21_12 yk_X12_isGauge (by decide) (by decide) rfl (Nat.le_of_ble_eq_true rfl) rfl dX12_copy_2 ?_
    refine z_if_eq 43 hf dX12_copy_5 (by decide) (fun hf => ?_) (fun hf => ?_)
    · refine z_lv [(0, .ref l0)] [0] rfl ?_
      exact zb_X12_copy_43 hE hf
    · refine z_aload_n 0 dX12_copy_8 rfl rfl ?_
      refine z_iload_n 3 dX12_copy_9 rfl rfl ?_
      obtain ⟨v2, ev2, hf⟩ := ob hf
      refine z_cVi (ci := 12) (T := TX12) (N := 32) (As := [.int l3]) (rest := []) (zm_X12_isGauge ev2).2 (zm_X12_isGauge ev2).1 (by decide) rfl (Or.inl rfl) mw_21_9 mw_21_10 mw_21_11 mw_1_5 mw_21_12 yk_X12_isGauge (by decide) (by decide) rfl (Nat.le_of_ble_eq_true rfl) rfl dX12_copy_10 ?_
      refine z_if_eq 43 hf dX12_copy_13 (by decide) (fun hf => ?_) (fun hf => ?_)
      · refine z_lv [(0, .ref l0)] [0] rfl ?_
        exact zb_X12_copy_43 hE hf
      · refine z_aload_n 0 dX12_copy_16 rfl rfl ?_
        refine z_gP (ci := 12) (k := 0) (C := RX12) (T := TX12) (N := 32) rfl inlX12 (by decide) mw_6_19 (fun _ _ _ _ h9 => h9) hf (by decide) rfl dX12_copy_17  (fun v3 hf => ?_)
        refine z_aload_n 0 dX12_copy_20 rfl rfl ?_
        refine z_iload_n 1 dX12_copy_21 rfl rfl ?_
        obtain ⟨v4, ev4, hf⟩ := ob hf
        refine z_cVi (ci := 12) (T := TX12) (N := 32) (As := [.int l1]) (rest := [.ref v3]) (zm_X12_ga ev4).2 (zm_X12_ga ev4).1 (by decide) rfl (Or.inl rfl) mw_20_8 mw_20_9 mw_20_10 mw_1_5 mw_20_11 yk_X12_ga (by decide) (by decide) rfl (Nat.le_of_ble_eq_true rfl) rfl dX12_copy_22 ?_
        refine z_iconst 1 1 dX12_copy_25 (by decide) ?_
        refine z_iadd dX12_copy_26 ?_
        refine z_aI hf dX12_copy_27  (fun v5 hf => ?_)
        refine z_aload_n 0 dX12_copy_28 rfl rfl ?_
        refine z_gP (ci := 12) (k := 0) (C := RX12) (T := TX12) (N := 32) rfl inlX12 (by decide) mw_6_19 (fun _ _ _ _ h9 => h9) hf (by decide) rfl dX12_copy_29  (fun v6 hf => ?_)
        refine z_aload_n 0 dX12_copy_32 rfl rfl ?_
        refine z_iload_n 3 dX12_copy_33 rfl rfl ?_
        obtain ⟨v7, ev7, hf⟩ := ob hf
        refine z_cVi (ci := 12) (T := TX12) (N := 32) (As := [.int l3]) (rest := [.ref v6, .int v5]) (zm_X12_ga ev7).2 (zm_X12_ga ev7).1 (by decide) rfl (Or.inl rfl) mw_20_8 mw_20_9 mw_20_10 mw_1_5 mw_20_11 yk_X12_ga (by decide) (by decide) rfl (Nat.le_of_ble_eq_true rfl) rfl dX12_copy_34 ?_
        refine z_iconst 1 1 dX12_copy_37 (by decide) ?_
        refine z_iadd dX12_copy_38 ?_
        refine z_aI hf dX12_copy_39  (fun v8 hf => ?_)
        refine z_icmp_eq 50 hf dX12_copy_40 (by decide) (fun hf => ?_) (fun hf => ?_)
        · refine z_aload_n 0 dX12_copy_50 rfl rfl ?_
          refine z_iload_n 1 dX12_copy_51 rfl rfl ?_
          refine z_iload_n 2 dX12_copy_52 rfl rfl ?_
          refine z_iload_n 3 dX12_copy_53 rfl rfl ?_
          refine z_iload 4 dX12_copy_54 rfl ?_
          refine z_iload 5 dX12_copy_56 rfl ?_
          obtain ⟨v9, ev9, hf⟩ := ob hf
          refine z_cVi (ci := 12) (T := TX12) (N := 32) (As := [.int l1, .int l2, .int l3, .int l4, .int l5]) (rest := []) (zm_X12_against ev9).2 (zm_X12_against ev9).1 (by decide) rfl (Or.inl rfl) mw_26_10 mw_26_11 mw_26_12 mw_1_5 mw_26_13 yk_X12_against (by decide) (by decide) rfl (Nat.le_of_ble_eq_true rfl) rfl dX12_copy_58 ?_
          refine z_istore [(6, .int v9), (0, .ref l0), (1, .int l1), (2, .int l2), (3, .int l3), (4, .int l4), (5, .int l5)] dX12_copy_61 (by decide) rfl ?_
          refine z_iload 0 dX12_copy_63 rfl ?_
          refine z_if_eq 75 hf dX12_copy_65 (by decide) (fun hf => ?_) (fun hf => ?_)
          · refine z_aload_n 1 dX12_copy_75 rfl rfl ?_
            obtain ⟨v10, ev10, hf⟩ := ob hf
            refine z_cVv (ci := 12) (T := TX12) (N := 32) (As := []) (rest := []) (zm_X12_keeps ev10).2 (zm_X12_keeps ev10).1 (by decide) rfl (Or.inl rfl) mw_11_23 mw_12_0 mw_12_1 mw_1_5 mw_12_2 yk_X12_keeps (by decide) (by decide) rfl (Nat.le_of_ble_eq_true rfl) rfl dX12_copy_76 ?_
            refine z_aload_n 1 dX12_copy_79 rfl rfl ?_
            refine z_iload_n 2 dX12_copy_80 rfl rfl ?_
            refine z_iload_n 3 dX12_copy_81 rfl rfl ?_
            refine z_iload_n 4 dX12_copy_82 rfl rfl ?_
            refine z_iload 5 dX12_copy_83 rfl ?_
            refine z_iload 6 dX12_copy_85 rfl ?_
            obtain ⟨v11, ev11, hf⟩ := ob hf
            refine z_cVv (ci := 12) (T := TX12) (N := 32) (As := [.int l1, .int l2, .int l3, .int l4, .int l5]) (rest := []) (zm_X12_brings ev11).2 (zm_X12_brings ev11).1 (by decide) rfl (Or.inl rfl) mw_26_14 mw_26_15 mw_26_16 mw_1_5 mw_26_17 yk_X12_brings (by decide) (by decide) rfl (Nat.le_of_ble_eq_true rfl) rfl dX12_copy_87 ?_
            refine z_aload_n 1 dX12_copy_90 rfl rfl ?_
            refine z_iconst 1 1 dX12_copy_91 (by decide) ?_
            obtain ⟨v12, ev12, hf⟩ := ob hf
            refine z_cVi (ci := 12) (T := TX12) (N := 32) (As := [.int (1 : Int32)]) (rest := []) (zm_X12_says ev12).2 (zm_X12_says ev12).1 (by decide) rfl (Or.inl rfl) mw_12_4 mw_12_5 mw_12_6 mw_1_5 mw_12_7 yk_X12_says (by decide) (by decide) rfl (Nat.le_of_ble_eq_true rfl) rfl dX12_copy_92 ?_
            cases hf
            exact z_ireturn hE rfl dX12_copy_95
          · refine z_aload_n 1 dX12_copy_68 rfl rfl ?_
            refine z_iload 0 dX12_copy_69 rfl ?_
            obtain ⟨v13, ev13, hf⟩ := ob hf
            refine z_cVi (ci := 12) (T := TX12) (N := 32) (As := [.int v9]) (rest := []) (zm_X12_refuses ev13).2 (zm_X12_refuses ev13).1 (by decide) rfl (Or.inl rfl) mw_11_14 mw_11_15 mw_11_16 mw_1_5 mw_11_17 yk_X12_refuses (by decide) (by decide) rfl (Nat.le_of_ble_eq_true rfl) rfl dX12_copy_71 ?_
            cases hf
            exact z_ireturn hE rfl dX12_copy_74
        · refine z_lv [(0, .ref l0)] [0] rfl ?_
          exact zb_X12_copy_43 hE hf
  · cases hf
set_option maxRecDepth 20000 in
theorem zb_X12_count_20 {N : Nat} {sh : Sh} {d : Dt} {r : Int32} {E : EV} (hE : TG E (some (.int r)) (sh, d))  {t0 : Int32} (hf : f_X12_count_20 N sh t0 d = some r) : Z E yX12_count cX12_count 2 (some .int) 2 (sh, d) 20 [] [.int t0] := by
  unfold f_X12_count_20 at hf
  cases hf
  exact z_ireturn hE rfl dX12_count_20
set_option maxRecDepth 20000 in
theorem zm_X12_count {N : Nat} {sh : Sh} {d : Dt} {l0 : Nat} {l1 : Int32} {r : Int32} (hf : f_X12_count N sh l0 l1 d = some r) : isO sh l0 12 ∧ ∀ (l : Launch) (G : GG), Mt l G yX12_count cX12_count 2 (some .int) 2 [.ref l0, .int l1] (sh, d) (some (.int r)) (sh, d) := by
  have hf0 := hf
  unfold f_X12_count at hf
  refine ite_d hf (fun hO hf => ?_) (fun _ hf => ?_)
  · refine ⟨hO, fun l G => mt_of (Or.inl (by decide)) (Nat.le_of_ble_eq_true rfl) Le.rf (fun E hE => ?_)⟩
    show Z E yX12_count cX12_count 2 (some .int) 2 (sh, d) 0 [(0, .ref l0), (1, .int l1)] []
    refine z_iload_n 1 dX12_count_0 rfl rfl ?_
    refine z_iconst 0 0 dX12_count_1 (by decide) ?_
    refine z_iconst 3 3 dX12_count_2 (by decide) ?_
    obtain ⟨v1, ev1, hf⟩ := ob hf
    refine z_cTi (As := [.int l1, .int (0 : Int32), .int (3 : Int32)]) (rest := []) (zm_X12_in ev1) (Or.inl rfl) mw_11_11 mw_11_12 mw_1_5 mw_11_13 yk_X12_in (by decide) (by decide) rfl (Nat.le_of_ble_eq_true rfl) rfl dX12_count_3 ?_
    refine z_if_eq 18 hf dX12_count_6 (by decide) (fun hf => ?_) (fun hf => ?_)
    · refine z_bipush (-2) (-2) dX12_count_18 (by decide) ?_
      refine z_lv [] [] rfl ?_
      exact zb_X12_count_20 hE hf
    · refine z_aload_n 0 dX12_count_9 rfl rfl ?_
      refine z_gP (ci := 12) (k := 0) (C := RX12) (T := TX12) (N := 32) rfl inlX12 (by decide) mw_6_19 (fun _ _ _ _ h9 => h9) hf (by decide) rfl dX12_count_10  (fun v2 hf => ?_)
      refine z_iload_n 1 dX12_count_13 rfl rfl ?_
      refine z_aI hf dX12_count_14  (fun v3 hf => ?_)
      refine z_goto 20 dX12_count_15 (by decide) ?_
      refine z_lv [] [] rfl ?_
      exact zb_X12_count_20 hE hf
  · cases hf
set_option maxRecDepth 20000 in
theorem zm_X12_crossings {N : Nat} {sh : Sh} {d : Dt} {l0 : Nat} {l1 : Int32} {r : Int32 × Dt} (hf : f_X12_crossings N sh l0 l1 d = some r) : isO sh l0 12 ∧ ∀ (l : Launch) (G : GG), Mt l G yX12_crossings cX12_crossings 2 (some .int) 3 [.ref l0, .int l1] (sh, d) (some (.int r.1)) (sh, r.2) := by
  have hf0 := hf
  unfold f_X12_crossings at hf
  refine ite_d hf (fun hO hf => ?_) (fun _ hf => ?_)
  · refine ⟨hO, fun l G => mt_of (Or.inl (by decide)) (Nat.le_of_ble_eq_true rfl) Le.rf (fun E hE => ?_)⟩
    show Z E yX12_crossings cX12_crossings 2 (some .int) 3 (sh, d) 0 [(0, .ref l0), (1, .int l1)] []
    refine z_iload_n 1 dX12_crossings_0 rfl rfl ?_
    refine z_iconst 1 1 dX12_crossings_1 (by decide) ?_
    refine z_bipush 20 20 dX12_crossings_2 (by decide) ?_
    obtain ⟨v1, ev1, hf⟩ := ob hf
    refine z_cTi (As := [.int l1, .int (1 : Int32), .int (20 : Int32)]) (rest := []) (zm_X12_in ev1) (Or.inl rfl) mw_11_11 mw_11_12 mw_1_5 mw_11_13 yk_X12_in (by decide) (by decide) rfl (Nat.le_of_ble_eq_true rfl) rfl dX12_crossings_4 ?_
    refine z_if_ne 17 hf dX12_crossings_7 (by decide) (fun hf => ?_) (fun hf => ?_)
    · refine z_aload_n 0 dX12_crossings_17 rfl rfl ?_
      refine z_gP (ci := 12) (k := 0) (C := RX12) (T := TX12) (N := 32) rfl inlX12 (by decide) mw_6_19 (fun _ _ _ _ h9 => h9) hf (by decide) rfl dX12_crossings_18  (fun v2 hf => ?_)
      refine z_iconst 0 0 dX12_crossings_21 (by decide) ?_
      refine z_aI hf dX12_crossings_22  (fun v3 hf => ?_)
      refine z_iload_n 1 dX12_crossings_23 rfl rfl ?_
      refine z_iadd dX12_crossings_24 ?_
      refine z_bipush 60 60 dX12_crossings_25 (by decide) ?_
      refine z_icmp_le 37 hf dX12_crossings_27 (by decide) (fun hf => ?_) (fun hf => ?_)
      · refine z_aload_n 0 dX12_crossings_37 rfl rfl ?_
        obtain ⟨v4, ev4, hf⟩ := ob hf
        refine z_cVv (ci := 12) (T := TX12) (N := 32) (As := []) (rest := []) (zm_X12_keeps ev4).2 (zm_X12_keeps ev4).1 (by decide) rfl (Or.inl rfl) mw_11_23 mw_12_0 mw_12_1 mw_1_5 mw_12_2 yk_X12_keeps (by decide) (by decide) rfl (Nat.le_of_ble_eq_true rfl) rfl dX12_crossings_38 ?_
        refine z_aload_n 0 dX12_crossings_41 rfl rfl ?_
        refine z_iconst 0 0 dX12_crossings_42 (by decide) ?_
        refine z_pI (ci := 12) (k := 10) (C := RX12) (T := TX12) (N := 32) rfl inlX12 (by decide) mw_11_10 (fun _ _ _ _ h9 => h9) tyX12 tyX12_ok nmX12 rfl hf (Or.inl (by decide)) rfl rfl rfl dX12_crossings_43  (fun d5 hf => ?_)
        refine z_aload_n 0 dX12_crossings_46 rfl rfl ?_
        refine z_gP (ci := 12) (k := 0) (C := RX12) (T := TX12) (N := 32) rfl inlX12 (by decide) mw_6_19 (fun _ _ _ _ h9 => h9) hf (by decide) rfl dX12_crossings_47  (fun v6 hf => ?_)
        refine z_iconst 0 0 dX12_crossings_50 (by decide) ?_
        refine z_dup2_11 dX12_crossings_51 rfl rfl ?_
        refine z_aI hf dX12_crossings_52  (fun v7 hf => ?_)
        refine z_iload_n 1 dX12_crossings_53 rfl rfl ?_
        refine z_iadd dX12_crossings_54 ?_
        refine z_sI hf dX12_crossings_55  (fun d8 hf => ?_)
        refine z_aload_n 0 dX12_crossings_56 rfl rfl ?_
        refine z_aload_n 0 dX12_crossings_57 rfl rfl ?_
        refine z_gP (ci := 12) (k := 0) (C := RX12) (T := TX12) (N := 32) rfl inlX12 (by decide) mw_6_19 (fun _ _ _ _ h9 => h9) hf (by decide) rfl dX12_crossings_58  (fun v9 hf => ?_)
        refine z_iconst 0 0 dX12_crossings_61 (by decide) ?_
        refine z_aI hf dX12_crossings_62  (fun v10 hf => ?_)
        obtain ⟨v11, ev11, hf⟩ := ob hf
        refine z_cVi (ci := 12) (T := TX12) (N := 32) (As := [.int v10]) (rest := []) (zm_X12_says ev11).2 (zm_X12_says ev11).1 (by decide) rfl (Or.inl rfl) mw_12_4 mw_12_5 mw_12_6 mw_1_5 mw_12_7 yk_X12_says (by decide) (by decide) rfl (Nat.le_of_ble_eq_true rfl) rfl dX12_crossings_63 ?_
        cases hf
        exact z_ireturn hE rfl dX12_crossings_66
      · refine z_aload_n 0 dX12_crossings_30 rfl rfl ?_
        refine z_bipush (-3) (-3) dX12_crossings_31 (by decide) ?_
        obtain ⟨v12, ev12, hf⟩ := ob hf
        refine z_cVi (ci := 12) (T := TX12) (N := 32) (As := [.int (-3 : Int32)]) (rest := []) (zm_X12_refuses ev12).2 (zm_X12_refuses ev12).1 (by decide) rfl (Or.inl rfl) mw_11_14 mw_11_15 mw_11_16 mw_1_5 mw_11_17 yk_X12_refuses (by decide) (by decide) rfl (Nat.le_of_ble_eq_true rfl) rfl dX12_crossings_33 ?_
        cases hf
        exact z_ireturn hE rfl dX12_crossings_36
    · refine z_aload_n 0 dX12_crossings_10 rfl rfl ?_
      refine z_bipush (-2) (-2) dX12_crossings_11 (by decide) ?_
      obtain ⟨v13, ev13, hf⟩ := ob hf
      refine z_cVi (ci := 12) (T := TX12) (N := 32) (As := [.int (-2 : Int32)]) (rest := []) (zm_X12_refuses ev13).2 (zm_X12_refuses ev13).1 (by decide) rfl (Or.inl rfl) mw_11_14 mw_11_15 mw_11_16 mw_1_5 mw_11_17 yk_X12_refuses (by decide) (by decide) rfl (Nat.le_of_ble_eq_true rfl) rfl dX12_crossings_13 ?_
      cases hf
      exact z_ireturn hE rfl dX12_crossings_16
  · cases hf
set_option maxRecDepth 20000 in
theorem zb_X12_x_60 {N : Nat} {sh : Sh} {d : Dt} {r : UInt32} {E : EV} (hE : TG E (some (.float r)) (sh, d))  {t0 : UInt32} (hf : f_X12_x_60 N sh t0 d = some r) : Z E yX12_x cX12_x 5 (some .float) 2 (sh, d) 60 [] [.float t0] := by
  unfold f_X12_x_60 at hf
  cases hf
  exact z_freturn hE rfl dX12_x_60
set_option maxRecDepth 20000 in
theorem zb_X12_x_45 {N : Nat} {sh : Sh} {d : Dt} {r : UInt32} {E : EV} (hE : TG E (some (.float r)) (sh, d))  {t0 : UInt32} (hf : f_X12_x_45 N sh t0 d = some r) : Z E yX12_x cX12_x 5 (some .float) 2 (sh, d) 45 [] [.float t0] := by
  unfold f_X12_x_45 at hf
  refine z_fstore [(4, .float t0)] dX12_x_45 (by decide) rfl ?_
  refine z_fload 0 dX12_x_47 rfl ?_
  refine z_fconst0 dX12_x_49 ?_
  refine z_fcmp dX12_x_50 ?_
  refine z_if_ge 58 hf dX12_x_51 (by decide) (fun hf => ?_) (fun hf => ?_)
  · refine z_fload 0 dX12_x_58 rfl ?_
    refine z_lv [] [] rfl ?_
    exact zb_X12_x_60 hE hf
  · refine z_fconst0 dX12_x_54 ?_
    refine z_goto 60 dX12_x_55 (by decide) ?_
    refine z_lv [] [] rfl ?_
    exact zb_X12_x_60 hE hf
set_option maxRecDepth 20000 in
theorem zm_X12_x {N : Nat} {sh : Sh} {d : Dt} {l0 : Nat} {l1 : Int32} {l2 : Int32} {r : UInt32} (hf : f_X12_x N sh l0 l1 l2 d = some r) : isO sh l0 12 ∧ ∀ (l : Launch) (G : GG), Mt l G yX12_x cX12_x 5 (some .float) 2 [.ref l0, .int l1, .int l2] (sh, d) (some (.float r)) (sh, d) := by
  have hf0 := hf
  unfold f_X12_x at hf
  refine ite_d hf (fun hO hf => ?_) (fun _ hf => ?_)
  · refine ⟨hO, fun l G => mt_of (Or.inl (by decide)) (Nat.le_of_ble_eq_true rfl) Le.rf (fun E hE => ?_)⟩
    show Z E yX12_x cX12_x 5 (some .float) 2 (sh, d) 0 [(0, .ref l0), (1, .int l1), (2, .int l2)] []
    refine z_aload_n 0 dX12_x_0 rfl rfl ?_
    refine z_gP (ci := 12) (k := 0) (C := RX12) (T := TX12) (N := 32) rfl inlX12 (by decide) mw_6_19 (fun _ _ _ _ h9 => h9) hf (by decide) rfl dX12_x_1  (fun v1 hf => ?_)
    refine z_sipush 1426 1426 dX12_x_4 (by decide) ?_
    refine z_sipush 200 200 dX12_x_7 (by decide) ?_
    refine z_iload_n 1 dX12_x_10 rfl rfl ?_
    refine z_imul dX12_x_11 ?_
    refine z_iadd dX12_x_12 ?_
    refine z_iload_n 2 dX12_x_13 rfl rfl ?_
    refine z_iadd dX12_x_14 ?_
    refine z_aI hf dX12_x_15  (fun v2 hf => ?_)
    refine z_istore_n [(3, .int v2), (0, .ref l0), (1, .int l1), (2, .int l2)] dX12_x_16 rfl (by decide) rfl ?_
    refine z_aload_n 1 dX12_x_17 rfl rfl ?_
    refine z_gP (ci := 12) (k := 0) (C := RX12) (T := TX12) (N := 32) rfl inlX12 (by decide) mw_6_19 (fun _ _ _ _ h9 => h9) hf (by decide) rfl dX12_x_18  (fun v3 hf => ?_)
    refine z_aload_n 1 dX12_x_21 rfl rfl ?_
    refine z_iload_n 2 dX12_x_22 rfl rfl ?_
    obtain ⟨v4, ev4, hf⟩ := ob hf
    refine z_cVi (ci := 12) (T := TX12) (N := 32) (As := [.int l1]) (rest := [.ref v3]) (zm_X12_ga ev4).2 (zm_X12_ga ev4).1 (by decide) rfl (Or.inl rfl) mw_20_8 mw_20_9 mw_20_10 mw_1_5 mw_20_11 yk_X12_ga (by decide) (by decide) rfl (Nat.le_of_ble_eq_true rfl) rfl dX12_x_23 ?_
    refine z_iconst 1 1 dX12_x_26 (by decide) ?_
    refine z_iadd dX12_x_27 ?_
    refine z_aI hf dX12_x_28  (fun v5 hf => ?_)
    refine z_if_ne 40 hf dX12_x_29 (by decide) (fun hf => ?_) (fun hf => ?_)
    · refine z_iload_n 0 dX12_x_40 rfl rfl ?_
      refine z_i2f dX12_x_41 ?_
      refine z_ldcf mw_25_0 dX12_x_42 ?_
      refine z_fdiv hf dX12_x_44  (fun v6 hf => ?_)
      refine z_lv [] [] rfl ?_
      exact zb_X12_x_45 hE hf
    · refine z_iload_n 0 dX12_x_32 rfl rfl ?_
      refine z_i2f dX12_x_33 ?_
      refine z_ldcf mw_25_5 dX12_x_34 ?_
      refine z_fdiv hf dX12_x_36  (fun v7 hf => ?_)
      refine z_goto 45 dX12_x_37 (by decide) ?_
      refine z_lv [] [] rfl ?_
      exact zb_X12_x_45 hE hf
  · cases hf
set_option maxRecDepth 20000 in
theorem zm_X12_whole {N : Nat} {sh : Sh} {d : Dt} {l0 : Nat} {l1 : UInt32} {r : Int32} (hf : f_X12_whole N sh l0 l1 d = some r) : isO sh l0 12 ∧ ∀ (l : Launch) (G : GG), Mt l G yX12_whole cX12_whole 2 (some .int) 2 [.ref l0, .float l1] (sh, d) (some (.int r)) (sh, d) := by
  have hf0 := hf
  unfold f_X12_whole at hf
  refine ite_d hf (fun hO hf => ?_) (fun _ hf => ?_)
  · refine ⟨hO, fun l G => mt_of (Or.inl (by decide)) (Nat.le_of_ble_eq_true rfl) Le.rf (fun E hE => ?_)⟩
    show Z E yX12_whole cX12_whole 2 (some .int) 2 (sh, d) 0 [(0, .ref l0), (1, .float l1)] []
    refine z_fload_n 1 dX12_whole_0 rfl rfl ?_
    refine z_f2i dX12_whole_1 ?_
    refine z_ldc mw_25_10 dX12_whole_2 ?_
    obtain ⟨v1, ev1, hf⟩ := ob hf
    refine z_cTi (As := [.int (FP.f2i l1), .int (100000 : Int32)]) (rest := []) (zm_X12_lesser ev1) (Or.inl rfl) mw_25_11 mw_25_12 mw_1_5 mw_25_13 yk_X12_lesser (by decide) (by decide) rfl (Nat.le_of_ble_eq_true rfl) rfl dX12_whole_4 ?_
    cases hf
    exact z_ireturn hE rfl dX12_whole_7
  · cases hf
set_option maxRecDepth 20000 in
theorem zb_X12_tells_36 {N : Nat} {sh : Sh} {d : Dt} {r : Int32} {E : EV} (hE : TG E (some (.int r)) (sh, d))  {t0 : Int32} (hf : f_X12_tells_36 N sh t0 d = some r) : Z E yX12_tells cX12_tells 3 (some .int) 3 (sh, d) 36 [] [.int t0] := by
  unfold f_X12_tells_36 at hf
  cases hf
  exact z_ireturn hE rfl dX12_tells_36
set_option maxRecDepth 20000 in
theorem zm_X12_tells {N : Nat} {sh : Sh} {d : Dt} {l0 : Nat} {l1 : Int32} {l2 : Int32} {r : Int32} (hf : f_X12_tells N sh l0 l1 l2 d = some r) : isO sh l0 12 ∧ ∀ (l : Launch) (G : GG), Mt l G yX12_tells cX12_tells 3 (some .int) 3 [.ref l0, .int l1, .int l2] (sh, d) (some (.int r)) (sh, d) := by
  have hf0 := hf
  unfold f_X12_tells at hf
  refine ite_d hf (fun hO hf => ?_) (fun _ hf => ?_)
  · refine ⟨hO, fun l G => mt_of (Or.inl (by decide)) (Nat.le_of_ble_eq_true rfl) Le.rf (fun E hE => ?_)⟩
    show Z E yX12_tells cX12_tells 3 (some .int) 3 (sh, d) 0 [(0, .ref l0), (1, .int l1), (2, .int l2)] []
    refine z_aload_n 0 dX12_tells_0 rfl rfl ?_
    refine z_gP (ci := 12) (k := 0) (C := RX12) (T := TX12) (N := 32) rfl inlX12 (by decide) mw_6_19 (fun _ _ _ _ h9 => h9) hf (by decide) rfl dX12_tells_1  (fun v1 hf => ?_)
    refine z_sipush 5426 5426 dX12_tells_4 (by decide) ?_
    refine z_sipush 200 200 dX12_tells_7 (by decide) ?_
    refine z_iload_n 1 dX12_tells_10 rfl rfl ?_
    refine z_imul dX12_tells_11 ?_
    refine z_iadd dX12_tells_12 ?_
    refine z_iload_n 2 dX12_tells_13 rfl rfl ?_
    refine z_iadd dX12_tells_14 ?_
    refine z_aI hf dX12_tells_15  (fun v2 hf => ?_)
    refine z_if_eq 23 hf dX12_tells_16 (by decide) (fun hf => ?_) (fun hf => ?_)
    · refine z_aload_n 0 dX12_tells_23 rfl rfl ?_
      refine z_aload_n 0 dX12_tells_24 rfl rfl ?_
      refine z_iload_n 1 dX12_tells_25 rfl rfl ?_
      refine z_iload_n 2 dX12_tells_26 rfl rfl ?_
      obtain ⟨v3, ev3, hf⟩ := ob hf
      refine z_cVf (ci := 12) (T := TX12) (N := 32) (As := [.int l1, .int l2]) (rest := [.ref l0]) (zm_X12_x ev3).2 (zm_X12_x ev3).1 (by decide) rfl (Or.inl rfl) mw_25_1 mw_25_2 mw_25_3 mw_1_5 mw_25_4 yk_X12_x (by decide) (by decide) rfl (Nat.le_of_ble_eq_true rfl) rfl dX12_tells_27 ?_
      refine z_ldcf mw_25_0 dX12_tells_30 ?_
      refine z_fmul hf dX12_tells_32  (fun v4 hf => ?_)
      obtain ⟨v5, ev5, hf⟩ := ob hf
      refine z_cVi (ci := 12) (T := TX12) (N := 32) (As := [.float v4]) (rest := []) (zm_X12_whole ev5).2 (zm_X12_whole ev5).1 (by decide) rfl (Or.inl rfl) mw_25_6 mw_25_7 mw_25_8 mw_1_5 mw_25_9 yk_X12_whole (by decide) (by decide) rfl (Nat.le_of_ble_eq_true rfl) rfl dX12_tells_33 ?_
      refine z_lv [] [] rfl ?_
      exact zb_X12_tells_36 hE hf
    · refine z_iconst (-1) (-1) dX12_tells_19 (by decide) ?_
      refine z_goto 36 dX12_tells_20 (by decide) ?_
      refine z_lv [] [] rfl ?_
      exact zb_X12_tells_36 hE hf
  · cases hf
set_option maxRecDepth 20000 in
theorem zb_X12_partAt_135 {N : Nat} {sh : Sh} {d : Dt} {r : Int32} {E : EV} (hE : TG E (some (.int r)) (sh, d))  {t0 : Int32} (hf : f_X12_partAt_135 N sh t0 d = some r) : Z E yX12_partAt cX12_partAt 4 (some .int) 2 (sh, d) 135 [] [.int t0] := by
  unfold f_X12_partAt_135 at hf
  cases hf
  exact z_ireturn hE rfl dX12_partAt_135
set_option maxRecDepth 20000 in
theorem zm_X12_partAt {N : Nat} {sh : Sh} {d : Dt} {l0 : Nat} {l1 : Int32} {l2 : Int32} {r : Int32} (hf : f_X12_partAt N sh l0 l1 l2 d = some r) : isO sh l0 12 ∧ ∀ (l : Launch) (G : GG), Mt l G yX12_partAt cX12_partAt 4 (some .int) 2 [.ref l0, .int l1, .int l2] (sh, d) (some (.int r)) (sh, d) := by
  have hf0 := hf
  unfold f_X12_partAt at hf
  refine ite_d hf (fun hO hf => ?_) (fun _ hf => ?_)
  · refine ⟨hO, fun l G => mt_of (Or.inl (by decide)) (Nat.le_of_ble_eq_true rfl) Le.rf (fun E hE => ?_)⟩
    show Z E yX12_partAt cX12_partAt 4 (some .int) 2 (sh, d) 0 [(0, .ref l0), (1, .int l1), (2, .int l2)] []
    refine z_aload_n 0 dX12_partAt_0 rfl rfl ?_
    refine z_iload_n 1 dX12_partAt_1 rfl rfl ?_
    obtain ⟨v1, ev1, hf⟩ := ob hf
    refine z_cVi (ci := 12) (T := TX12) (N := 32) (As := [.int l1]) (rest := []) (zm_X12_pl ev1).2 (zm_X12_pl ev1).1 (by decide) rfl (Or.inl rfl) mw_31_6 mw_31_7 mw_31_8 mw_1_5 mw_31_9 yk_X12_pl (by decide) (by decide) rfl (Nat.le_of_ble_eq_true rfl) rfl dX12_partAt_2 ?_
    refine z_istore_n [(3, .int v1), (0, .ref l0), (1, .int l1), (2, .int l2)] dX12_partAt_5 rfl (by decide) rfl ?_
    refine z_iload_n 3 dX12_partAt_6 rfl rfl ?_
    refine z_tabc (v := 0) 45 52 hf dX12_partAt_7 (by decide) (by decide) rfl (by decide) (fun hf => ?_) (fun n4 hf => ?_)
    · refine z_aload_n 1 dX12_partAt_52 rfl rfl ?_
      refine z_gP (ci := 12) (k := 0) (C := RX12) (T := TX12) (N := 32) rfl inlX12 (by decide) mw_6_19 (fun _ _ _ _ h9 => h9) hf (by decide) rfl dX12_partAt_53  (fun v2 hf => ?_)
      refine z_iload_n 0 dX12_partAt_56 rfl rfl ?_
      refine z_bipush 6 6 dX12_partAt_57 (by decide) ?_
      refine z_iadd dX12_partAt_59 ?_
      refine z_aI hf dX12_partAt_60  (fun v3 hf => ?_)
      cases hf
      exact z_ireturn hE rfl dX12_partAt_61
    refine z_tabc (v := 1) 55 62 hf dX12_partAt_7 (by decide) (by decide) rfl (by decide) (fun hf => ?_) (fun n7 hf => ?_)
    · refine z_aload_n 1 dX12_partAt_62 rfl rfl ?_
      refine z_gP (ci := 12) (k := 0) (C := RX12) (T := TX12) (N := 32) rfl inlX12 (by decide) mw_6_19 (fun _ _ _ _ h9 => h9) hf (by decide) rfl dX12_partAt_63  (fun v5 hf => ?_)
      refine z_iload_n 0 dX12_partAt_66 rfl rfl ?_
      refine z_bipush 7 7 dX12_partAt_67 (by decide) ?_
      refine z_iadd dX12_partAt_69 ?_
      refine z_aI hf dX12_partAt_70  (fun v6 hf => ?_)
      cases hf
      exact z_ireturn hE rfl dX12_partAt_71
    refine z_tabc (v := 2) 65 72 hf dX12_partAt_7 (by decide) (by decide) rfl (by decide) (fun hf => ?_) (fun n10 hf => ?_)
    · refine z_aload_n 1 dX12_partAt_72 rfl rfl ?_
      refine z_gP (ci := 12) (k := 0) (C := RX12) (T := TX12) (N := 32) rfl inlX12 (by decide) mw_6_19 (fun _ _ _ _ h9 => h9) hf (by decide) rfl dX12_partAt_73  (fun v8 hf => ?_)
      refine z_iload_n 0 dX12_partAt_76 rfl rfl ?_
      refine z_bipush 8 8 dX12_partAt_77 (by decide) ?_
      refine z_iadd dX12_partAt_79 ?_
      refine z_aI hf dX12_partAt_80  (fun v9 hf => ?_)
      cases hf
      exact z_ireturn hE rfl dX12_partAt_81
    refine z_tabc (v := 3) 75 82 hf dX12_partAt_7 (by decide) (by decide) rfl (by decide) (fun hf => ?_) (fun n13 hf => ?_)
    · refine z_aload_n 1 dX12_partAt_82 rfl rfl ?_
      refine z_gP (ci := 12) (k := 0) (C := RX12) (T := TX12) (N := 32) rfl inlX12 (by decide) mw_6_19 (fun _ _ _ _ h9 => h9) hf (by decide) rfl dX12_partAt_83  (fun v11 hf => ?_)
      refine z_iload_n 0 dX12_partAt_86 rfl rfl ?_
      refine z_bipush 9 9 dX12_partAt_87 (by decide) ?_
      refine z_iadd dX12_partAt_89 ?_
      refine z_aI hf dX12_partAt_90  (fun v12 hf => ?_)
      cases hf
      exact z_ireturn hE rfl dX12_partAt_91
    refine z_tabc (v := 4) 85 92 hf dX12_partAt_7 (by decide) (by decide) rfl (by decide) (fun hf => ?_) (fun n16 hf => ?_)
    · refine z_aload_n 1 dX12_partAt_92 rfl rfl ?_
      refine z_gP (ci := 12) (k := 0) (C := RX12) (T := TX12) (N := 32) rfl inlX12 (by decide) mw_6_19 (fun _ _ _ _ h9 => h9) hf (by decide) rfl dX12_partAt_93  (fun v14 hf => ?_)
      refine z_iload_n 0 dX12_partAt_96 rfl rfl ?_
      refine z_bipush 10 10 dX12_partAt_97 (by decide) ?_
      refine z_iadd dX12_partAt_99 ?_
      refine z_aI hf dX12_partAt_100  (fun v15 hf => ?_)
      cases hf
      exact z_ireturn hE rfl dX12_partAt_101
    refine z_tabc (v := 5) 95 102 hf dX12_partAt_7 (by decide) (by decide) rfl (by decide) (fun hf => ?_) (fun n19 hf => ?_)
    · refine z_aload_n 1 dX12_partAt_102 rfl rfl ?_
      refine z_gP (ci := 12) (k := 0) (C := RX12) (T := TX12) (N := 32) rfl inlX12 (by decide) mw_6_19 (fun _ _ _ _ h9 => h9) hf (by decide) rfl dX12_partAt_103  (fun v17 hf => ?_)
      refine z_iload_n 0 dX12_partAt_106 rfl rfl ?_
      refine z_iconst 1 1 dX12_partAt_107 (by decide) ?_
      refine z_iadd dX12_partAt_108 ?_
      refine z_aI hf dX12_partAt_109  (fun v18 hf => ?_)
      cases hf
      exact z_ireturn hE rfl dX12_partAt_110
    refine z_tabc (v := 6) 104 111 hf dX12_partAt_7 (by decide) (by decide) rfl (by decide) (fun hf => ?_) (fun n24 hf => ?_)
    · refine z_aload_n 1 dX12_partAt_111 rfl rfl ?_
      refine z_gP (ci := 12) (k := 0) (C := RX12) (T := TX12) (N := 32) rfl inlX12 (by decide) mw_6_19 (fun _ _ _ _ h9 => h9) hf (by decide) rfl dX12_partAt_112  (fun v20 hf => ?_)
      refine z_iload_n 0 dX12_partAt_115 rfl rfl ?_
      refine z_iconst 2 2 dX12_partAt_116 (by decide) ?_
      refine z_iadd dX12_partAt_117 ?_
      refine z_aI hf dX12_partAt_118  (fun v21 hf => ?_)
      refine z_iconst 1 1 dX12_partAt_119 (by decide) ?_
      refine z_icmp_ne 127 hf dX12_partAt_120 (by decide) (fun hf => ?_) (fun hf => ?_)
      · refine z_aload_n 1 dX12_partAt_127 rfl rfl ?_
        refine z_gP (ci := 12) (k := 0) (C := RX12) (T := TX12) (N := 32) rfl inlX12 (by decide) mw_6_19 (fun _ _ _ _ h9 => h9) hf (by decide) rfl dX12_partAt_128  (fun v22 hf => ?_)
        refine z_iload_n 0 dX12_partAt_131 rfl rfl ?_
        refine z_iconst 0 0 dX12_partAt_132 (by decide) ?_
        refine z_iadd dX12_partAt_133 ?_
        refine z_aI hf dX12_partAt_134  (fun v23 hf => ?_)
        refine z_lv [] [] rfl ?_
        exact zb_X12_partAt_135 hE hf
      · refine z_iconst (-1) (-1) dX12_partAt_123 (by decide) ?_
        refine z_goto 135 dX12_partAt_124 (by decide) ?_
        refine z_lv [] [] rfl ?_
        exact zb_X12_partAt_135 hE hf
    refine z_tabc (v := 7) 129 136 hf dX12_partAt_7 (by decide) (by decide) rfl (by decide) (fun hf => ?_) (fun n27 hf => ?_)
    · refine z_aload_n 1 dX12_partAt_136 rfl rfl ?_
      refine z_gP (ci := 12) (k := 0) (C := RX12) (T := TX12) (N := 32) rfl inlX12 (by decide) mw_6_19 (fun _ _ _ _ h9 => h9) hf (by decide) rfl dX12_partAt_137  (fun v25 hf => ?_)
      refine z_iload_n 0 dX12_partAt_140 rfl rfl ?_
      refine z_bipush 11 11 dX12_partAt_141 (by decide) ?_
      refine z_iadd dX12_partAt_143 ?_
      refine z_aI hf dX12_partAt_144  (fun v26 hf => ?_)
      cases hf
      exact z_ireturn hE rfl dX12_partAt_145
    refine z_tabd 146 dX12_partAt_7 (by have qn4 := tab_out 0 (by decide) n4; have qn7 := tab_out 1 (by decide) n7; have qn10 := tab_out 2 (by decide) n10; have qn13 := tab_out 3 (by decide) n13; have qn16 := tab_out 4 (by decide) n16; have qn19 := tab_out 5 (by decide) n19; have qn24 := tab_out 6 (by decide) n24; have qn27 := tab_out 7 (by decide) n27; omega) (by decide) ?_
    refine z_aload_n 1 dX12_partAt_146 rfl rfl ?_
    refine z_gP (ci := 12) (k := 0) (C := RX12) (T := TX12) (N := 32) rfl inlX12 (by decide) mw_6_19 (fun _ _ _ _ h9 => h9) hf (by decide) rfl dX12_partAt_147  (fun v28 hf => ?_)
    refine z_iload_n 0 dX12_partAt_150 rfl rfl ?_
    refine z_bipush 12 12 dX12_partAt_151 (by decide) ?_
    refine z_iadd dX12_partAt_153 ?_
    refine z_aI hf dX12_partAt_154  (fun v29 hf => ?_)
    cases hf
    exact z_ireturn hE rfl dX12_partAt_155
  · cases hf
set_option maxRecDepth 20000 in
theorem zb_X12_digest_234 {N : Nat} {sh : Sh} {r : Int32 × Dt} {E : EV} (hE : TG E (some (.int r.1)) (sh, r.2))  {l0 : Nat} {l1 : Int32} {d : Dt} (hf : f_X12_digest_234 N sh l0 l1 d = some r) : Z E yX12_digest cX12_digest 4 (some .int) 4 (sh, d) 234 [(0, .ref l0), (1, .int l1)] [] := by
  unfold f_X12_digest_234 at hf
  refine z_aload_n 0 dX12_digest_234 rfl rfl ?_
  refine z_iload_n 1 dX12_digest_235 rfl rfl ?_
  obtain ⟨v25, ev25, hf⟩ := ob hf
  refine z_cVi (ci := 12) (T := TX12) (N := 32) (As := [.int l1]) (rest := []) (zm_X12_says ev25).2 (zm_X12_says ev25).1 (by decide) rfl (Or.inl rfl) mw_12_4 mw_12_5 mw_12_6 mw_1_5 mw_12_7 yk_X12_says (by decide) (by decide) rfl (Nat.le_of_ble_eq_true rfl) rfl dX12_digest_236 ?_
  cases hf
  exact z_ireturn hE rfl dX12_digest_239
set_option maxRecDepth 20000 in
theorem zb_X12_digest_228 {N : Nat} {sh : Sh} {k193 : Nat → Int32 → Int32 → Dt → Option (Int32 × Dt)} {r : Int32 × Dt} {E : EV} (hE : TG E (some (.int r.1)) (sh, r.2)) (hk193 : ∀ (l0 : Nat) (l1 : Int32) (l2 : Int32) (d : Dt), k193 l0 l1 l2 d = some r → Z E yX12_digest cX12_digest 4 (some .int) 4 (sh, d) 193 [(0, .ref l0), (1, .int l1), (2, .int l2)] []) {l0 : Nat} {l1 : Int32} {l2 : Int32} {d : Dt} (hf : f_X12_digest_228 N sh k193 l0 l1 l2 d = some r) : Z E yX12_digest cX12_digest 4 (some .int) 4 (sh, d) 228 [(0, .ref l0), (1, .int l1), (2, .int l2)] [] := by
  unfold f_X12_digest_228 at hf
  refine z_iinc [(2, .int (l2 + 1)), (0, .ref l0), (1, .int l1)] 2 (l2 + 1) dX12_digest_228 rfl rfl (by decide) rfl ?_
  refine z_goto 193 dX12_digest_231 (by decide) ?_
  refine z_lv [(0, .ref l0), (1, .int l1), (2, .int (l2 + 1))] [1, 2, 0] rfl ?_
  exact hk193 _ _ _ _ hf
set_option maxRecDepth 20000 in
theorem zg_X12_digest_205 {N : Nat} {sh : Sh} {k193 : Nat → Int32 → Int32 → Dt → Option (Int32 × Dt)} {r : Int32 × Dt} {k205 : Nat → Int32 → Int32 → Int32 → Dt → Option (Int32 × Dt)} {E : EV} (hE : TG E (some (.int r.1)) (sh, r.2)) (hk193 : ∀ (l0 : Nat) (l1 : Int32) (l2 : Int32) (d : Dt), k193 l0 l1 l2 d = some r → Z E yX12_digest cX12_digest 4 (some .int) 4 (sh, d) 193 [(0, .ref l0), (1, .int l1), (2, .int l2)] []) (hk205 : ∀ (l0 : Nat) (l1 : Int32) (l2 : Int32) (l3 : Int32) (d : Dt), k205 l0 l1 l2 l3 d = some r → Z E yX12_digest cX12_digest 4 (some .int) 4 (sh, d) 205 [(0, .ref l0), (1, .int l1), (2, .int l2), (3, .int l3)] []) {l0 : Nat} {l1 : Int32} {l2 : Int32} {l3 : Int32} {d : Dt} (hf : g_X12_digest_205 N sh k193 k205 l0 l1 l2 l3 d = some r) : Z E yX12_digest cX12_digest 4 (some .int) 4 (sh, d) 205 [(0, .ref l0), (1, .int l1), (2, .int l2), (3, .int l3)] [] := by
  unfold g_X12_digest_205 at hf
  refine z_iload_n 3 dX12_digest_205 rfl rfl ?_
  refine z_iconst 4 4 dX12_digest_206 (by decide) ?_
  refine z_icmp_ge 228 hf dX12_digest_207 (by decide) (fun hf => ?_) (fun hf => ?_)
  · refine z_lv [(0, .ref l0), (1, .int l1), (2, .int l2)] [0, 1, 2] rfl ?_
    exact zb_X12_digest_228 hE hk193 hf
  · refine z_bipush 31 31 dX12_digest_210 (by decide) ?_
    refine z_iload_n 1 dX12_digest_212 rfl rfl ?_
    refine z_imul dX12_digest_213 ?_
    refine z_aload_n 0 dX12_digest_214 rfl rfl ?_
    refine z_iload_n 2 dX12_digest_215 rfl rfl ?_
    refine z_iload_n 3 dX12_digest_216 rfl rfl ?_
    obtain ⟨v26, ev26, hf⟩ := ob hf
    refine z_cVi (ci := 12) (T := TX12) (N := 32) (As := [.int l2, .int l3]) (rest := [.int ((31 : Int32) * l1)]) (zm_X12_driveAt ev26).2 (zm_X12_driveAt ev26).1 (by decide) rfl (Or.inl rfl) mw_51_17 mw_51_18 mw_51_19 mw_1_5 mw_51_20 yk_X12_driveAt (by decide) (by decide) rfl (Nat.le_of_ble_eq_true rfl) rfl dX12_digest_217 ?_
    refine z_iadd dX12_digest_220 ?_
    refine z_istore_n [(1, .int (((31 : Int32) * l1) + v26)), (0, .ref l0), (2, .int l2), (3, .int l3)] dX12_digest_221 rfl (by decide) rfl ?_
    refine z_iinc [(3, .int (l3 + 1)), (1, .int (((31 : Int32) * l1) + v26)), (0, .ref l0), (2, .int l2)] 3 (l3 + 1) dX12_digest_222 rfl rfl (by decide) rfl ?_
    refine z_goto 205 dX12_digest_225 (by decide) ?_
    refine z_lv [(0, .ref l0), (1, .int (((31 : Int32) * l1) + v26)), (2, .int l2), (3, .int (l3 + 1))] [2, 1, 3, 0] rfl ?_
    exact hk205 _ _ _ _ _ hf
set_option maxRecDepth 20000 in
theorem zb_X12_digest_205 {N : Nat} {sh : Sh} {k193 : Nat → Int32 → Int32 → Dt → Option (Int32 × Dt)} {r : Int32 × Dt} {E : EV} (hE : TG E (some (.int r.1)) (sh, r.2)) (hk193 : ∀ (l0 : Nat) (l1 : Int32) (l2 : Int32) (d : Dt), k193 l0 l1 l2 d = some r → Z E yX12_digest cX12_digest 4 (some .int) 4 (sh, d) 193 [(0, .ref l0), (1, .int l1), (2, .int l2)] []) : ∀ (n : Nat) (l0 : Nat) (l1 : Int32) (l2 : Int32) (l3 : Int32) (d : Dt), f_X12_digest_205 N sh k193 n l0 l1 l2 l3 d = some r → Z E yX12_digest cX12_digest 4 (some .int) 4 (sh, d) 205 [(0, .ref l0), (1, .int l1), (2, .int l2), (3, .int l3)] [] := by
  intro n
  induction n with
  | zero => intro l0 l1 l2 l3 d hf; cases hf
  | succ n ih => intro l0 l1 l2 l3 d hf; exact zg_X12_digest_205 hE hk193 ih hf
set_option maxRecDepth 20000 in
theorem zg_X12_digest_193 {N : Nat} {sh : Sh} {r : Int32 × Dt} {k193 : Nat → Int32 → Int32 → Dt → Option (Int32 × Dt)} {E : EV} (hE : TG E (some (.int r.1)) (sh, r.2))  (hk193 : ∀ (l0 : Nat) (l1 : Int32) (l2 : Int32) (d : Dt), k193 l0 l1 l2 d = some r → Z E yX12_digest cX12_digest 4 (some .int) 4 (sh, d) 193 [(0, .ref l0), (1, .int l1), (2, .int l2)] []) {l0 : Nat} {l1 : Int32} {l2 : Int32} {d : Dt} (hf : g_X12_digest_193 N sh k193 l0 l1 l2 d = some r) : Z E yX12_digest cX12_digest 4 (some .int) 4 (sh, d) 193 [(0, .ref l0), (1, .int l1), (2, .int l2)] [] := by
  unfold g_X12_digest_193 at hf
  refine z_iload_n 2 dX12_digest_193 rfl rfl ?_
  refine z_aload_n 0 dX12_digest_194 rfl rfl ?_
  refine z_gP (ci := 12) (k := 0) (C := RX12) (T := TX12) (N := 32) rfl inlX12 (by decide) mw_6_19 (fun _ _ _ _ h9 => h9) hf (by decide) rfl dX12_digest_195  (fun v23 hf => ?_)
  refine z_iconst 4 4 dX12_digest_198 (by decide) ?_
  refine z_aI hf dX12_digest_199  (fun v24 hf => ?_)
  refine z_icmp_ge 234 hf dX12_digest_200 (by decide) (fun hf => ?_) (fun hf => ?_)
  · refine z_lv [(0, .ref l0), (1, .int l1)] [0, 1] rfl ?_
    exact zb_X12_digest_234 hE hf
  · refine z_iconst 0 0 dX12_digest_203 (by decide) ?_
    refine z_istore_n [(3, .int (0 : Int32)), (0, .ref l0), (1, .int l1), (2, .int l2)] dX12_digest_204 rfl (by decide) rfl ?_
    refine z_lv [(0, .ref l0), (1, .int l1), (2, .int l2), (3, .int (0 : Int32))] [1, 2, 3, 0] rfl ?_
    exact zb_X12_digest_205 hE hk193 N _ _ _ _ _ hf
set_option maxRecDepth 20000 in
theorem zb_X12_digest_193 {N : Nat} {sh : Sh} {r : Int32 × Dt} {E : EV} (hE : TG E (some (.int r.1)) (sh, r.2))  : ∀ (n : Nat) (l0 : Nat) (l1 : Int32) (l2 : Int32) (d : Dt), f_X12_digest_193 N sh n l0 l1 l2 d = some r → Z E yX12_digest cX12_digest 4 (some .int) 4 (sh, d) 193 [(0, .ref l0), (1, .int l1), (2, .int l2)] [] := by
  intro n
  induction n with
  | zero => intro l0 l1 l2 d hf; cases hf
  | succ n ih => intro l0 l1 l2 d hf; exact zg_X12_digest_193 hE ih hf
set_option maxRecDepth 20000 in
theorem zb_X12_digest_191 {N : Nat} {sh : Sh} {r : Int32 × Dt} {E : EV} (hE : TG E (some (.int r.1)) (sh, r.2))  {l0 : Nat} {l1 : Int32} {d : Dt} (hf : f_X12_digest_191 N sh l0 l1 d = some r) : Z E yX12_digest cX12_digest 4 (some .int) 4 (sh, d) 191 [(0, .ref l0), (1, .int l1)] [] := by
  unfold f_X12_digest_191 at hf
  refine z_iconst 0 0 dX12_digest_191 (by decide) ?_
  refine z_istore_n [(2, .int (0 : Int32)), (0, .ref l0), (1, .int l1)] dX12_digest_192 rfl (by decide) rfl ?_
  refine z_lv [(0, .ref l0), (1, .int l1), (2, .int (0 : Int32))] [1, 2, 0] rfl ?_
  exact zb_X12_digest_193 hE N _ _ _ _ hf
set_option maxRecDepth 20000 in
theorem zb_X12_digest_185 {N : Nat} {sh : Sh} {k149 : Nat → Int32 → Int32 → Dt → Option (Int32 × Dt)} {r : Int32 × Dt} {E : EV} (hE : TG E (some (.int r.1)) (sh, r.2)) (hk149 : ∀ (l0 : Nat) (l1 : Int32) (l2 : Int32) (d : Dt), k149 l0 l1 l2 d = some r → Z E yX12_digest cX12_digest 4 (some .int) 4 (sh, d) 149 [(0, .ref l0), (1, .int l1), (2, .int l2)] []) {l0 : Nat} {l1 : Int32} {l2 : Int32} {d : Dt} (hf : f_X12_digest_185 N sh k149 l0 l1 l2 d = some r) : Z E yX12_digest cX12_digest 4 (some .int) 4 (sh, d) 185 [(0, .ref l0), (1, .int l1), (2, .int l2)] [] := by
  unfold f_X12_digest_185 at hf
  refine z_iinc [(2, .int (l2 + 1)), (0, .ref l0), (1, .int l1)] 2 (l2 + 1) dX12_digest_185 rfl rfl (by decide) rfl ?_
  refine z_goto 149 dX12_digest_188 (by decide) ?_
  refine z_lv [(0, .ref l0), (1, .int l1), (2, .int (l2 + 1))] [1, 2, 0] rfl ?_
  exact hk149 _ _ _ _ hf
set_option maxRecDepth 20000 in
theorem zg_X12_digest_161 {N : Nat} {sh : Sh} {k149 : Nat → Int32 → Int32 → Dt → Option (Int32 × Dt)} {r : Int32 × Dt} {k161 : Nat → Int32 → Int32 → Int32 → Dt → Option (Int32 × Dt)} {E : EV} (hE : TG E (some (.int r.1)) (sh, r.2)) (hk149 : ∀ (l0 : Nat) (l1 : Int32) (l2 : Int32) (d : Dt), k149 l0 l1 l2 d = some r → Z E yX12_digest cX12_digest 4 (some .int) 4 (sh, d) 149 [(0, .ref l0), (1, .int l1), (2, .int l2)] []) (hk161 : ∀ (l0 : Nat) (l1 : Int32) (l2 : Int32) (l3 : Int32) (d : Dt), k161 l0 l1 l2 l3 d = some r → Z E yX12_digest cX12_digest 4 (some .int) 4 (sh, d) 161 [(0, .ref l0), (1, .int l1), (2, .int l2), (3, .int l3)] []) {l0 : Nat} {l1 : Int32} {l2 : Int32} {l3 : Int32} {d : Dt} (hf : g_X12_digest_161 N sh k149 k161 l0 l1 l2 l3 d = some r) : Z E yX12_digest cX12_digest 4 (some .int) 4 (sh, d) 161 [(0, .ref l0), (1, .int l1), (2, .int l2), (3, .int l3)] [] := by
  unfold g_X12_digest_161 at hf
  refine z_iload_n 3 dX12_digest_161 rfl rfl ?_
  refine z_bipush 9 9 dX12_digest_162 (by decide) ?_
  refine z_icmp_ge 185 hf dX12_digest_164 (by decide) (fun hf => ?_) (fun hf => ?_)
  · refine z_lv [(0, .ref l0), (1, .int l1), (2, .int l2)] [0, 1, 2] rfl ?_
    exact zb_X12_digest_185 hE hk149 hf
  · refine z_bipush 31 31 dX12_digest_167 (by decide) ?_
    refine z_iload_n 1 dX12_digest_169 rfl rfl ?_
    refine z_imul dX12_digest_170 ?_
    refine z_aload_n 0 dX12_digest_171 rfl rfl ?_
    refine z_iload_n 2 dX12_digest_172 rfl rfl ?_
    refine z_iload_n 3 dX12_digest_173 rfl rfl ?_
    obtain ⟨v22, ev22, hf⟩ := ob hf
    refine z_cVi (ci := 12) (T := TX12) (N := 32) (As := [.int l2, .int l3]) (rest := [.int ((31 : Int32) * l1)]) (zm_X12_partAt ev22).2 (zm_X12_partAt ev22).1 (by decide) rfl (Or.inl rfl) mw_53_19 mw_53_20 mw_53_21 mw_1_5 mw_53_22 yk_X12_partAt (by decide) (by decide) rfl (Nat.le_of_ble_eq_true rfl) rfl dX12_digest_174 ?_
    refine z_iadd dX12_digest_177 ?_
    refine z_istore_n [(1, .int (((31 : Int32) * l1) + v22)), (0, .ref l0), (2, .int l2), (3, .int l3)] dX12_digest_178 rfl (by decide) rfl ?_
    refine z_iinc [(3, .int (l3 + 1)), (1, .int (((31 : Int32) * l1) + v22)), (0, .ref l0), (2, .int l2)] 3 (l3 + 1) dX12_digest_179 rfl rfl (by decide) rfl ?_
    refine z_goto 161 dX12_digest_182 (by decide) ?_
    refine z_lv [(0, .ref l0), (1, .int (((31 : Int32) * l1) + v22)), (2, .int l2), (3, .int (l3 + 1))] [2, 1, 3, 0] rfl ?_
    exact hk161 _ _ _ _ _ hf
set_option maxRecDepth 20000 in
theorem zb_X12_digest_161 {N : Nat} {sh : Sh} {k149 : Nat → Int32 → Int32 → Dt → Option (Int32 × Dt)} {r : Int32 × Dt} {E : EV} (hE : TG E (some (.int r.1)) (sh, r.2)) (hk149 : ∀ (l0 : Nat) (l1 : Int32) (l2 : Int32) (d : Dt), k149 l0 l1 l2 d = some r → Z E yX12_digest cX12_digest 4 (some .int) 4 (sh, d) 149 [(0, .ref l0), (1, .int l1), (2, .int l2)] []) : ∀ (n : Nat) (l0 : Nat) (l1 : Int32) (l2 : Int32) (l3 : Int32) (d : Dt), f_X12_digest_161 N sh k149 n l0 l1 l2 l3 d = some r → Z E yX12_digest cX12_digest 4 (some .int) 4 (sh, d) 161 [(0, .ref l0), (1, .int l1), (2, .int l2), (3, .int l3)] [] := by
  intro n
  induction n with
  | zero => intro l0 l1 l2 l3 d hf; cases hf
  | succ n ih => intro l0 l1 l2 l3 d hf; exact zg_X12_digest_161 hE hk149 ih hf
set_option maxRecDepth 20000 in
theorem zg_X12_digest_149 {N : Nat} {sh : Sh} {r : Int32 × Dt} {k149 : Nat → Int32 → Int32 → Dt → Option (Int32 × Dt)} {E : EV} (hE : TG E (some (.int r.1)) (sh, r.2))  (hk149 : ∀ (l0 : Nat) (l1 : Int32) (l2 : Int32) (d : Dt), k149 l0 l1 l2 d = some r → Z E yX12_digest cX12_digest 4 (some .int) 4 (sh, d) 149 [(0, .ref l0), (1, .int l1), (2, .int l2)] []) {l0 : Nat} {l1 : Int32} {l2 : Int32} {d : Dt} (hf : g_X12_digest_149 N sh k149 l0 l1 l2 d = some r) : Z E yX12_digest cX12_digest 4 (some .int) 4 (sh, d) 149 [(0, .ref l0), (1, .int l1), (2, .int l2)] [] := by
  unfold g_X12_digest_149 at hf
  refine z_iload_n 2 dX12_digest_149 rfl rfl ?_
  refine z_aload_n 0 dX12_digest_150 rfl rfl ?_
  refine z_gP (ci := 12) (k := 0) (C := RX12) (T := TX12) (N := 32) rfl inlX12 (by decide) mw_6_19 (fun _ _ _ _ h9 => h9) hf (by decide) rfl dX12_digest_151  (fun v20 hf => ?_)
  refine z_iconst 3 3 dX12_digest_154 (by decide) ?_
  refine z_aI hf dX12_digest_155  (fun v21 hf => ?_)
  refine z_icmp_ge 191 hf dX12_digest_156 (by decide) (fun hf => ?_) (fun hf => ?_)
  · refine z_lv [(0, .ref l0), (1, .int l1)] [0, 1] rfl ?_
    exact zb_X12_digest_191 hE hf
  · refine z_iconst 0 0 dX12_digest_159 (by decide) ?_
    refine z_istore_n [(3, .int (0 : Int32)), (0, .ref l0), (1, .int l1), (2, .int l2)] dX12_digest_160 rfl (by decide) rfl ?_
    refine z_lv [(0, .ref l0), (1, .int l1), (2, .int l2), (3, .int (0 : Int32))] [1, 2, 3, 0] rfl ?_
    exact zb_X12_digest_161 hE hk149 N _ _ _ _ _ hf
set_option maxRecDepth 20000 in
theorem zb_X12_digest_149 {N : Nat} {sh : Sh} {r : Int32 × Dt} {E : EV} (hE : TG E (some (.int r.1)) (sh, r.2))  : ∀ (n : Nat) (l0 : Nat) (l1 : Int32) (l2 : Int32) (d : Dt), f_X12_digest_149 N sh n l0 l1 l2 d = some r → Z E yX12_digest cX12_digest 4 (some .int) 4 (sh, d) 149 [(0, .ref l0), (1, .int l1), (2, .int l2)] [] := by
  intro n
  induction n with
  | zero => intro l0 l1 l2 d hf; cases hf
  | succ n ih => intro l0 l1 l2 d hf; exact zg_X12_digest_149 hE ih hf
set_option maxRecDepth 20000 in
theorem zb_X12_digest_147 {N : Nat} {sh : Sh} {r : Int32 × Dt} {E : EV} (hE : TG E (some (.int r.1)) (sh, r.2))  {l0 : Nat} {l1 : Int32} {d : Dt} (hf : f_X12_digest_147 N sh l0 l1 d = some r) : Z E yX12_digest cX12_digest 4 (some .int) 4 (sh, d) 147 [(0, .ref l0), (1, .int l1)] [] := by
  unfold f_X12_digest_147 at hf
  refine z_iconst 0 0 dX12_digest_147 (by decide) ?_
  refine z_istore_n [(2, .int (0 : Int32)), (0, .ref l0), (1, .int l1)] dX12_digest_148 rfl (by decide) rfl ?_
  refine z_lv [(0, .ref l0), (1, .int l1), (2, .int (0 : Int32))] [1, 2, 0] rfl ?_
  exact zb_X12_digest_149 hE N _ _ _ _ hf
set_option maxRecDepth 20000 in
theorem zb_X12_digest_141 {N : Nat} {sh : Sh} {k63 : Nat → Int32 → Int32 → Dt → Option (Int32 × Dt)} {r : Int32 × Dt} {E : EV} (hE : TG E (some (.int r.1)) (sh, r.2)) (hk63 : ∀ (l0 : Nat) (l1 : Int32) (l2 : Int32) (d : Dt), k63 l0 l1 l2 d = some r → Z E yX12_digest cX12_digest 4 (some .int) 4 (sh, d) 63 [(0, .ref l0), (1, .int l1), (2, .int l2)] []) {l0 : Nat} {l1 : Int32} {l2 : Int32} {d : Dt} (hf : f_X12_digest_141 N sh k63 l0 l1 l2 d = some r) : Z E yX12_digest cX12_digest 4 (some .int) 4 (sh, d) 141 [(0, .ref l0), (1, .int l1), (2, .int l2)] [] := by
  unfold f_X12_digest_141 at hf
  refine z_iinc [(2, .int (l2 + 1)), (0, .ref l0), (1, .int l1)] 2 (l2 + 1) dX12_digest_141 rfl rfl (by decide) rfl ?_
  refine z_goto 63 dX12_digest_144 (by decide) ?_
  refine z_lv [(0, .ref l0), (1, .int l1), (2, .int (l2 + 1))] [1, 2, 0] rfl ?_
  exact hk63 _ _ _ _ hf
set_option maxRecDepth 20000 in
theorem zg_X12_digest_107 {N : Nat} {sh : Sh} {k63 : Nat → Int32 → Int32 → Dt → Option (Int32 × Dt)} {r : Int32 × Dt} {k107 : Nat → Int32 → Int32 → Int32 → Dt → Option (Int32 × Dt)} {E : EV} (hE : TG E (some (.int r.1)) (sh, r.2)) (hk63 : ∀ (l0 : Nat) (l1 : Int32) (l2 : Int32) (d : Dt), k63 l0 l1 l2 d = some r → Z E yX12_digest cX12_digest 4 (some .int) 4 (sh, d) 63 [(0, .ref l0), (1, .int l1), (2, .int l2)] []) (hk107 : ∀ (l0 : Nat) (l1 : Int32) (l2 : Int32) (l3 : Int32) (d : Dt), k107 l0 l1 l2 l3 d = some r → Z E yX12_digest cX12_digest 4 (some .int) 4 (sh, d) 107 [(0, .ref l0), (1, .int l1), (2, .int l2), (3, .int l3)] []) {l0 : Nat} {l1 : Int32} {l2 : Int32} {l3 : Int32} {d : Dt} (hf : g_X12_digest_107 N sh k63 k107 l0 l1 l2 l3 d = some r) : Z E yX12_digest cX12_digest 4 (some .int) 4 (sh, d) 107 [(0, .ref l0), (1, .int l1), (2, .int l2), (3, .int l3)] [] := by
  unfold g_X12_digest_107 at hf
  refine z_iload_n 3 dX12_digest_107 rfl rfl ?_
  refine z_aload_n 0 dX12_digest_108 rfl rfl ?_
  refine z_gP (ci := 12) (k := 0) (C := RX12) (T := TX12) (N := 32) rfl inlX12 (by decide) mw_6_19 (fun _ _ _ _ h9 => h9) hf (by decide) rfl dX12_digest_109  (fun v16 hf => ?_)
  refine z_aload_n 0 dX12_digest_112 rfl rfl ?_
  refine z_iload_n 2 dX12_digest_113 rfl rfl ?_
  obtain ⟨v17, ev17, hf⟩ := ob hf
  refine z_cVi (ci := 12) (T := TX12) (N := 32) (As := [.int l2]) (rest := [.ref v16, .int l3]) (zm_X12_ga ev17).2 (zm_X12_ga ev17).1 (by decide) rfl (Or.inl rfl) mw_20_8 mw_20_9 mw_20_10 mw_1_5 mw_20_11 yk_X12_ga (by decide) (by decide) rfl (Nat.le_of_ble_eq_true rfl) rfl dX12_digest_114 ?_
  refine z_iconst 2 2 dX12_digest_117 (by decide) ?_
  refine z_iadd dX12_digest_118 ?_
  refine z_aI hf dX12_digest_119  (fun v18 hf => ?_)
  refine z_icmp_ge 141 hf dX12_digest_120 (by decide) (fun hf => ?_) (fun hf => ?_)
  · refine z_lv [(0, .ref l0), (1, .int l1), (2, .int l2)] [0, 1, 2] rfl ?_
    exact zb_X12_digest_141 hE hk63 hf
  · refine z_bipush 31 31 dX12_digest_123 (by decide) ?_
    refine z_iload_n 1 dX12_digest_125 rfl rfl ?_
    refine z_imul dX12_digest_126 ?_
    refine z_aload_n 0 dX12_digest_127 rfl rfl ?_
    refine z_iload_n 2 dX12_digest_128 rfl rfl ?_
    refine z_iload_n 3 dX12_digest_129 rfl rfl ?_
    obtain ⟨v19, ev19, hf⟩ := ob hf
    refine z_cVi (ci := 12) (T := TX12) (N := 32) (As := [.int l2, .int l3]) (rest := [.int ((31 : Int32) * l1)]) (zm_X12_tells ev19).2 (zm_X12_tells ev19).1 (by decide) rfl (Or.inl rfl) mw_24_20 mw_24_21 mw_24_22 mw_1_5 mw_24_23 yk_X12_tells (by decide) (by decide) rfl (Nat.le_of_ble_eq_true rfl) rfl dX12_digest_130 ?_
    refine z_iadd dX12_digest_133 ?_
    refine z_istore_n [(1, .int (((31 : Int32) * l1) + v19)), (0, .ref l0), (2, .int l2), (3, .int l3)] dX12_digest_134 rfl (by decide) rfl ?_
    refine z_iinc [(3, .int (l3 + 1)), (1, .int (((31 : Int32) * l1) + v19)), (0, .ref l0), (2, .int l2)] 3 (l3 + 1) dX12_digest_135 rfl rfl (by decide) rfl ?_
    refine z_goto 107 dX12_digest_138 (by decide) ?_
    refine z_lv [(0, .ref l0), (1, .int (((31 : Int32) * l1) + v19)), (2, .int l2), (3, .int (l3 + 1))] [2, 1, 3, 0] rfl ?_
    exact hk107 _ _ _ _ _ hf
set_option maxRecDepth 20000 in
theorem zb_X12_digest_107 {N : Nat} {sh : Sh} {k63 : Nat → Int32 → Int32 → Dt → Option (Int32 × Dt)} {r : Int32 × Dt} {E : EV} (hE : TG E (some (.int r.1)) (sh, r.2)) (hk63 : ∀ (l0 : Nat) (l1 : Int32) (l2 : Int32) (d : Dt), k63 l0 l1 l2 d = some r → Z E yX12_digest cX12_digest 4 (some .int) 4 (sh, d) 63 [(0, .ref l0), (1, .int l1), (2, .int l2)] []) : ∀ (n : Nat) (l0 : Nat) (l1 : Int32) (l2 : Int32) (l3 : Int32) (d : Dt), f_X12_digest_107 N sh k63 n l0 l1 l2 l3 d = some r → Z E yX12_digest cX12_digest 4 (some .int) 4 (sh, d) 107 [(0, .ref l0), (1, .int l1), (2, .int l2), (3, .int l3)] [] := by
  intro n
  induction n with
  | zero => intro l0 l1 l2 l3 d hf; cases hf
  | succ n ih => intro l0 l1 l2 l3 d hf; exact zg_X12_digest_107 hE hk63 ih hf
set_option maxRecDepth 20000 in
theorem zg_X12_digest_63 {N : Nat} {sh : Sh} {r : Int32 × Dt} {k63 : Nat → Int32 → Int32 → Dt → Option (Int32 × Dt)} {E : EV} (hE : TG E (some (.int r.1)) (sh, r.2))  (hk63 : ∀ (l0 : Nat) (l1 : Int32) (l2 : Int32) (d : Dt), k63 l0 l1 l2 d = some r → Z E yX12_digest cX12_digest 4 (some .int) 4 (sh, d) 63 [(0, .ref l0), (1, .int l1), (2, .int l2)] []) {l0 : Nat} {l1 : Int32} {l2 : Int32} {d : Dt} (hf : g_X12_digest_63 N sh k63 l0 l1 l2 d = some r) : Z E yX12_digest cX12_digest 4 (some .int) 4 (sh, d) 63 [(0, .ref l0), (1, .int l1), (2, .int l2)] [] := by
  unfold g_X12_digest_63 at hf
  refine z_iload_n 2 dX12_digest_63 rfl rfl ?_
  refine z_aload_n 0 dX12_digest_64 rfl rfl ?_
  refine z_gP (ci := 12) (k := 0) (C := RX12) (T := TX12) (N := 32) rfl inlX12 (by decide) mw_6_19 (fun _ _ _ _ h9 => h9) hf (by decide) rfl dX12_digest_65  (fun v8 hf => ?_)
  refine z_iconst 2 2 dX12_digest_68 (by decide) ?_
  refine z_aI hf dX12_digest_69  (fun v9 hf => ?_)
  refine z_icmp_ge 147 hf dX12_digest_70 (by decide) (fun hf => ?_) (fun hf => ?_)
  · refine z_lv [(0, .ref l0), (1, .int l1)] [0, 1] rfl ?_
    exact zb_X12_digest_147 hE hf
  · refine z_bipush 31 31 dX12_digest_73 (by decide) ?_
    refine z_bipush 31 31 dX12_digest_75 (by decide) ?_
    refine z_iload_n 1 dX12_digest_77 rfl rfl ?_
    refine z_imul dX12_digest_78 ?_
    refine z_aload_n 0 dX12_digest_79 rfl rfl ?_
    refine z_gP (ci := 12) (k := 0) (C := RX12) (T := TX12) (N := 32) rfl inlX12 (by decide) mw_6_19 (fun _ _ _ _ h9 => h9) hf (by decide) rfl dX12_digest_80  (fun v10 hf => ?_)
    refine z_aload_n 0 dX12_digest_83 rfl rfl ?_
    refine z_iload_n 2 dX12_digest_84 rfl rfl ?_
    obtain ⟨v11, ev11, hf⟩ := ob hf
    refine z_cVi (ci := 12) (T := TX12) (N := 32) (As := [.int l2]) (rest := [.ref v10, .int ((31 : Int32) * l1), .int (31 : Int32)]) (zm_X12_ga ev11).2 (zm_X12_ga ev11).1 (by decide) rfl (Or.inl rfl) mw_20_8 mw_20_9 mw_20_10 mw_1_5 mw_20_11 yk_X12_ga (by decide) (by decide) rfl (Nat.le_of_ble_eq_true rfl) rfl dX12_digest_85 ?_
    refine z_aI hf dX12_digest_88  (fun v12 hf => ?_)
    refine z_iadd dX12_digest_89 ?_
    refine z_imul dX12_digest_90 ?_
    refine z_aload_n 0 dX12_digest_91 rfl rfl ?_
    refine z_gP (ci := 12) (k := 0) (C := RX12) (T := TX12) (N := 32) rfl inlX12 (by decide) mw_6_19 (fun _ _ _ _ h9 => h9) hf (by decide) rfl dX12_digest_92  (fun v13 hf => ?_)
    refine z_aload_n 0 dX12_digest_95 rfl rfl ?_
    refine z_iload_n 2 dX12_digest_96 rfl rfl ?_
    obtain ⟨v14, ev14, hf⟩ := ob hf
    refine z_cVi (ci := 12) (T := TX12) (N := 32) (As := [.int l2]) (rest := [.ref v13, .int ((31 : Int32) * (((31 : Int32) * l1) + v12))]) (zm_X12_ga ev14).2 (zm_X12_ga ev14).1 (by decide) rfl (Or.inl rfl) mw_20_8 mw_20_9 mw_20_10 mw_1_5 mw_20_11 yk_X12_ga (by decide) (by decide) rfl (Nat.le_of_ble_eq_true rfl) rfl dX12_digest_97 ?_
    refine z_iconst 2 2 dX12_digest_100 (by decide) ?_
    refine z_iadd dX12_digest_101 ?_
    refine z_aI hf dX12_digest_102  (fun v15 hf => ?_)
    refine z_iadd dX12_digest_103 ?_
    refine z_istore_n [(1, .int (((31 : Int32) * (((31 : Int32) * l1) + v12)) + v15)), (0, .ref l0), (2, .int l2)] dX12_digest_104 rfl (by decide) rfl ?_
    refine z_iconst 0 0 dX12_digest_105 (by decide) ?_
    refine z_istore_n [(3, .int (0 : Int32)), (1, .int (((31 : Int32) * (((31 : Int32) * l1) + v12)) + v15)), (0, .ref l0), (2, .int l2)] dX12_digest_106 rfl (by decide) rfl ?_
    refine z_lv [(0, .ref l0), (1, .int (((31 : Int32) * (((31 : Int32) * l1) + v12)) + v15)), (2, .int l2), (3, .int (0 : Int32))] [2, 1, 3, 0] rfl ?_
    exact zb_X12_digest_107 hE hk63 N _ _ _ _ _ hf
set_option maxRecDepth 20000 in
theorem zb_X12_digest_63 {N : Nat} {sh : Sh} {r : Int32 × Dt} {E : EV} (hE : TG E (some (.int r.1)) (sh, r.2))  : ∀ (n : Nat) (l0 : Nat) (l1 : Int32) (l2 : Int32) (d : Dt), f_X12_digest_63 N sh n l0 l1 l2 d = some r → Z E yX12_digest cX12_digest 4 (some .int) 4 (sh, d) 63 [(0, .ref l0), (1, .int l1), (2, .int l2)] [] := by
  intro n
  induction n with
  | zero => intro l0 l1 l2 d hf; cases hf
  | succ n ih => intro l0 l1 l2 d hf; exact zg_X12_digest_63 hE ih hf
set_option maxRecDepth 20000 in
theorem zb_X12_digest_61 {N : Nat} {sh : Sh} {r : Int32 × Dt} {E : EV} (hE : TG E (some (.int r.1)) (sh, r.2))  {l0 : Nat} {l1 : Int32} {d : Dt} (hf : f_X12_digest_61 N sh l0 l1 d = some r) : Z E yX12_digest cX12_digest 4 (some .int) 4 (sh, d) 61 [(0, .ref l0), (1, .int l1)] [] := by
  unfold f_X12_digest_61 at hf
  refine z_iconst 0 0 dX12_digest_61 (by decide) ?_
  refine z_istore_n [(2, .int (0 : Int32)), (0, .ref l0), (1, .int l1)] dX12_digest_62 rfl (by decide) rfl ?_
  refine z_lv [(0, .ref l0), (1, .int l1), (2, .int (0 : Int32))] [1, 2, 0] rfl ?_
  exact zb_X12_digest_63 hE N _ _ _ _ hf
set_option maxRecDepth 20000 in
theorem zb_X12_digest_55 {N : Nat} {sh : Sh} {k13 : Nat → Int32 → Int32 → Dt → Option (Int32 × Dt)} {r : Int32 × Dt} {E : EV} (hE : TG E (some (.int r.1)) (sh, r.2)) (hk13 : ∀ (l0 : Nat) (l1 : Int32) (l2 : Int32) (d : Dt), k13 l0 l1 l2 d = some r → Z E yX12_digest cX12_digest 4 (some .int) 4 (sh, d) 13 [(0, .ref l0), (1, .int l1), (2, .int l2)] []) {l0 : Nat} {l1 : Int32} {l2 : Int32} {d : Dt} (hf : f_X12_digest_55 N sh k13 l0 l1 l2 d = some r) : Z E yX12_digest cX12_digest 4 (some .int) 4 (sh, d) 55 [(0, .ref l0), (1, .int l1), (2, .int l2)] [] := by
  unfold f_X12_digest_55 at hf
  refine z_iinc [(2, .int (l2 + 1)), (0, .ref l0), (1, .int l1)] 2 (l2 + 1) dX12_digest_55 rfl rfl (by decide) rfl ?_
  refine z_goto 13 dX12_digest_58 (by decide) ?_
  refine z_lv [(0, .ref l0), (1, .int l1), (2, .int (l2 + 1))] [1, 2, 0] rfl ?_
  exact hk13 _ _ _ _ hf
set_option maxRecDepth 20000 in
theorem zg_X12_digest_25 {N : Nat} {sh : Sh} {k13 : Nat → Int32 → Int32 → Dt → Option (Int32 × Dt)} {r : Int32 × Dt} {k25 : Nat → Int32 → Int32 → Int32 → Dt → Option (Int32 × Dt)} {E : EV} (hE : TG E (some (.int r.1)) (sh, r.2)) (hk13 : ∀ (l0 : Nat) (l1 : Int32) (l2 : Int32) (d : Dt), k13 l0 l1 l2 d = some r → Z E yX12_digest cX12_digest 4 (some .int) 4 (sh, d) 13 [(0, .ref l0), (1, .int l1), (2, .int l2)] []) (hk25 : ∀ (l0 : Nat) (l1 : Int32) (l2 : Int32) (l3 : Int32) (d : Dt), k25 l0 l1 l2 l3 d = some r → Z E yX12_digest cX12_digest 4 (some .int) 4 (sh, d) 25 [(0, .ref l0), (1, .int l1), (2, .int l2), (3, .int l3)] []) {l0 : Nat} {l1 : Int32} {l2 : Int32} {l3 : Int32} {d : Dt} (hf : g_X12_digest_25 N sh k13 k25 l0 l1 l2 l3 d = some r) : Z E yX12_digest cX12_digest 4 (some .int) 4 (sh, d) 25 [(0, .ref l0), (1, .int l1), (2, .int l2), (3, .int l3)] [] := by
  unfold g_X12_digest_25 at hf
  refine z_iload_n 3 dX12_digest_25 rfl rfl ?_
  refine z_bipush 9 9 dX12_digest_26 (by decide) ?_
  refine z_icmp_ge 55 hf dX12_digest_28 (by decide) (fun hf => ?_) (fun hf => ?_)
  · refine z_lv [(0, .ref l0), (1, .int l1), (2, .int l2)] [0, 1, 2] rfl ?_
    exact zb_X12_digest_55 hE hk13 hf
  · refine z_bipush 31 31 dX12_digest_31 (by decide) ?_
    refine z_iload_n 1 dX12_digest_33 rfl rfl ?_
    refine z_imul dX12_digest_34 ?_
    refine z_aload_n 0 dX12_digest_35 rfl rfl ?_
    refine z_gP (ci := 12) (k := 0) (C := RX12) (T := TX12) (N := 32) rfl inlX12 (by decide) mw_6_19 (fun _ _ _ _ h9 => h9) hf (by decide) rfl dX12_digest_36  (fun v5 hf => ?_)
    refine z_aload_n 0 dX12_digest_39 rfl rfl ?_
    refine z_iload_n 2 dX12_digest_40 rfl rfl ?_
    obtain ⟨v6, ev6, hf⟩ := ob hf
    refine z_cVi (ci := 12) (T := TX12) (N := 32) (As := [.int l2]) (rest := [.ref v5, .int ((31 : Int32) * l1)]) (zm_X12_st ev6).2 (zm_X12_st ev6).1 (by decide) rfl (Or.inl rfl) mw_13_10 mw_13_11 mw_13_12 mw_1_5 mw_13_13 yk_X12_st (by decide) (by decide) rfl (Nat.le_of_ble_eq_true rfl) rfl dX12_digest_41 ?_
    refine z_iload_n 3 dX12_digest_44 rfl rfl ?_
    refine z_iadd dX12_digest_45 ?_
    refine z_aI hf dX12_digest_46  (fun v7 hf => ?_)
    refine z_iadd dX12_digest_47 ?_
    refine z_istore_n [(1, .int (((31 : Int32) * l1) + v7)), (0, .ref l0), (2, .int l2), (3, .int l3)] dX12_digest_48 rfl (by decide) rfl ?_
    refine z_iinc [(3, .int (l3 + 1)), (1, .int (((31 : Int32) * l1) + v7)), (0, .ref l0), (2, .int l2)] 3 (l3 + 1) dX12_digest_49 rfl rfl (by decide) rfl ?_
    refine z_goto 25 dX12_digest_52 (by decide) ?_
    refine z_lv [(0, .ref l0), (1, .int (((31 : Int32) * l1) + v7)), (2, .int l2), (3, .int (l3 + 1))] [2, 1, 3, 0] rfl ?_
    exact hk25 _ _ _ _ _ hf
set_option maxRecDepth 20000 in
theorem zb_X12_digest_25 {N : Nat} {sh : Sh} {k13 : Nat → Int32 → Int32 → Dt → Option (Int32 × Dt)} {r : Int32 × Dt} {E : EV} (hE : TG E (some (.int r.1)) (sh, r.2)) (hk13 : ∀ (l0 : Nat) (l1 : Int32) (l2 : Int32) (d : Dt), k13 l0 l1 l2 d = some r → Z E yX12_digest cX12_digest 4 (some .int) 4 (sh, d) 13 [(0, .ref l0), (1, .int l1), (2, .int l2)] []) : ∀ (n : Nat) (l0 : Nat) (l1 : Int32) (l2 : Int32) (l3 : Int32) (d : Dt), f_X12_digest_25 N sh k13 n l0 l1 l2 l3 d = some r → Z E yX12_digest cX12_digest 4 (some .int) 4 (sh, d) 25 [(0, .ref l0), (1, .int l1), (2, .int l2), (3, .int l3)] [] := by
  intro n
  induction n with
  | zero => intro l0 l1 l2 l3 d hf; cases hf
  | succ n ih => intro l0 l1 l2 l3 d hf; exact zg_X12_digest_25 hE hk13 ih hf
set_option maxRecDepth 20000 in
theorem zg_X12_digest_13 {N : Nat} {sh : Sh} {r : Int32 × Dt} {k13 : Nat → Int32 → Int32 → Dt → Option (Int32 × Dt)} {E : EV} (hE : TG E (some (.int r.1)) (sh, r.2))  (hk13 : ∀ (l0 : Nat) (l1 : Int32) (l2 : Int32) (d : Dt), k13 l0 l1 l2 d = some r → Z E yX12_digest cX12_digest 4 (some .int) 4 (sh, d) 13 [(0, .ref l0), (1, .int l1), (2, .int l2)] []) {l0 : Nat} {l1 : Int32} {l2 : Int32} {d : Dt} (hf : g_X12_digest_13 N sh k13 l0 l1 l2 d = some r) : Z E yX12_digest cX12_digest 4 (some .int) 4 (sh, d) 13 [(0, .ref l0), (1, .int l1), (2, .int l2)] [] := by
  unfold g_X12_digest_13 at hf
  refine z_iload_n 2 dX12_digest_13 rfl rfl ?_
  refine z_aload_n 0 dX12_digest_14 rfl rfl ?_
  refine z_gP (ci := 12) (k := 0) (C := RX12) (T := TX12) (N := 32) rfl inlX12 (by decide) mw_6_19 (fun _ _ _ _ h9 => h9) hf (by decide) rfl dX12_digest_15  (fun v3 hf => ?_)
  refine z_iconst 1 1 dX12_digest_18 (by decide) ?_
  refine z_aI hf dX12_digest_19  (fun v4 hf => ?_)
  refine z_icmp_ge 61 hf dX12_digest_20 (by decide) (fun hf => ?_) (fun hf => ?_)
  · refine z_lv [(0, .ref l0), (1, .int l1)] [0, 1] rfl ?_
    exact zb_X12_digest_61 hE hf
  · refine z_iconst 0 0 dX12_digest_23 (by decide) ?_
    refine z_istore_n [(3, .int (0 : Int32)), (0, .ref l0), (1, .int l1), (2, .int l2)] dX12_digest_24 rfl (by decide) rfl ?_
    refine z_lv [(0, .ref l0), (1, .int l1), (2, .int l2), (3, .int (0 : Int32))] [1, 2, 3, 0] rfl ?_
    exact zb_X12_digest_25 hE hk13 N _ _ _ _ _ hf
set_option maxRecDepth 20000 in
theorem zb_X12_digest_13 {N : Nat} {sh : Sh} {r : Int32 × Dt} {E : EV} (hE : TG E (some (.int r.1)) (sh, r.2))  : ∀ (n : Nat) (l0 : Nat) (l1 : Int32) (l2 : Int32) (d : Dt), f_X12_digest_13 N sh n l0 l1 l2 d = some r → Z E yX12_digest cX12_digest 4 (some .int) 4 (sh, d) 13 [(0, .ref l0), (1, .int l1), (2, .int l2)] [] := by
  intro n
  induction n with
  | zero => intro l0 l1 l2 d hf; cases hf
  | succ n ih => intro l0 l1 l2 d hf; exact zg_X12_digest_13 hE ih hf
set_option maxRecDepth 20000 in
theorem zm_X12_digest {N : Nat} {sh : Sh} {d : Dt} {l0 : Nat} {r : Int32 × Dt} (hf : f_X12_digest N sh l0 d = some r) : isO sh l0 12 ∧ ∀ (l : Launch) (G : GG), Mt l G yX12_digest cX12_digest 4 (some .int) 4 [.ref l0] (sh, d) (some (.int r.1)) (sh, r.2) := by
  have hf0 := hf
  unfold f_X12_digest at hf
  refine ite_d hf (fun hO hf => ?_) (fun _ hf => ?_)
  · refine ⟨hO, fun l G => mt_of (Or.inl (by decide)) (Nat.le_of_ble_eq_true rfl) Le.rf (fun E hE => ?_)⟩
    show Z E yX12_digest cX12_digest 4 (some .int) 4 (sh, d) 0 [(0, .ref l0)] []
    refine z_sipush 217 217 dX12_digest_0 (by decide) ?_
    refine z_aload_n 0 dX12_digest_3 rfl rfl ?_
    refine z_gP (ci := 12) (k := 0) (C := RX12) (T := TX12) (N := 32) rfl inlX12 (by decide) mw_6_19 (fun _ _ _ _ h9 => h9) hf (by decide) rfl dX12_digest_4  (fun v1 hf => ?_)
    refine z_iconst 0 0 dX12_digest_7 (by decide) ?_
    refine z_aI hf dX12_digest_8  (fun v2 hf => ?_)
    refine z_iadd dX12_digest_9 ?_
    refine z_istore_n [(1, .int ((217 : Int32) + v2)), (0, .ref l0)] dX12_digest_10 rfl (by decide) rfl ?_
    refine z_iconst 0 0 dX12_digest_11 (by decide) ?_
    refine z_istore_n [(2, .int (0 : Int32)), (1, .int ((217 : Int32) + v2)), (0, .ref l0)] dX12_digest_12 rfl (by decide) rfl ?_
    refine z_lv [(0, .ref l0), (1, .int ((217 : Int32) + v2)), (2, .int (0 : Int32))] [2, 1, 0] rfl ?_
    exact zb_X12_digest_13 hE N _ _ _ _ hf
  · cases hf
set_option maxRecDepth 20000 in
theorem zb_X12_drive_48 {N : Nat} {sh : Sh} {r : Dt} {E : EV} (hE : TG E none (sh, r))  {l0 : Nat} {d : Dt} (hf : f_X12_drive_48 N sh l0 d = some r) : Z E yX12_drive cX12_drive 4 none 1 (sh, d) 48 [(0, .ref l0)] [] := by
  unfold f_X12_drive_48 at hf
  refine z_aload_n 0 dX12_drive_48 rfl rfl ?_
  refine z_dup dX12_drive_49 rfl ?_
  refine z_gI (ci := 12) (k := 24) (C := RX12) (T := TX12) (N := 32) rfl inlX12 (by decide) mw_48_20 (fun _ _ _ _ h9 => h9) hf (by decide) rfl dX12_drive_50  (fun v10 hf => ?_)
  refine z_iconst 1 1 dX12_drive_53 (by decide) ?_
  refine z_iadd dX12_drive_54 ?_
  refine z_pI (ci := 12) (k := 24) (C := RX12) (T := TX12) (N := 32) rfl inlX12 (by decide) mw_48_20 (fun _ _ _ _ h9 => h9) tyX12 tyX12_ok nmX12 rfl hf (Or.inl (by decide)) rfl rfl rfl dX12_drive_55  (fun d11 hf => ?_)
  cases hf
  exact z_return hE rfl dX12_drive_58
set_option maxRecDepth 20000 in
theorem zb_X12_drive_47 {N : Nat} {sh : Sh} {r : Dt} {E : EV} (hE : TG E none (sh, r))  {l0 : Nat} {t0 : Nat} {t1 : Int32} {t2 : Int32} {d : Dt} (hf : f_X12_drive_47 N sh l0 t0 t1 t2 d = some r) : Z E yX12_drive cX12_drive 4 none 1 (sh, d) 47 [(0, .ref l0)] [.int t2, .int t1, .ref t0] := by
  unfold f_X12_drive_47 at hf
  refine z_sI hf dX12_drive_47  (fun d12 hf => ?_)
  exact zb_X12_drive_48 hE hf
set_option maxRecDepth 20000 in
theorem zm_X12_drive {N : Nat} {sh : Sh} {d : Dt} {l0 : Nat} {l1 : Int32} {l2 : Int32} {l3 : Int32} {r : Dt} (hf : f_X12_drive N sh l0 l1 l2 l3 d = some r) : isO sh l0 12 ∧ ∀ (l : Launch) (G : GG), Mt l G yX12_drive cX12_drive 4 none 1 [.ref l0, .int l1, .int l2, .int l3] (sh, d) none (sh, r) := by
  have hf0 := hf
  unfold f_X12_drive at hf
  refine ite_d hf (fun hO hf => ?_) (fun _ hf => ?_)
  · refine ⟨hO, fun l G => mt_of (Or.inl (by decide)) (Nat.le_of_ble_eq_true rfl) Le.rf (fun E hE => ?_)⟩
    show Z E yX12_drive cX12_drive 4 none 1 (sh, d) 0 [(0, .ref l0), (1, .int l1), (2, .int l2), (3, .int l3)] []
    refine z_aload_n 0 dX12_drive_0 rfl rfl ?_
    refine z_gI (ci := 12) (k := 24) (C := RX12) (T := TX12) (N := 32) rfl inlX12 (by decide) mw_48_20 (fun _ _ _ _ h9 => h9) hf (by decide) rfl dX12_drive_1  (fun v1 hf => ?_)
    refine z_sipush 2000 2000 dX12_drive_4 (by decide) ?_
    refine z_icmp_ge 48 hf dX12_drive_7 (by decide) (fun hf => ?_) (fun hf => ?_)
    · refine z_lv [(0, .ref l0)] [0] rfl ?_
      exact zb_X12_drive_48 hE hf
    · refine z_aload_n 0 dX12_drive_10 rfl rfl ?_
      refine z_gP (ci := 12) (k := 25) (C := RX12) (T := TX12) (N := 32) rfl inlX12 (by decide) mw_7_10 (fun _ _ _ _ h9 => h9) hf (by decide) rfl dX12_drive_11  (fun v2 hf => ?_)
      refine z_aload_n 0 dX12_drive_14 rfl rfl ?_
      refine z_gI (ci := 12) (k := 24) (C := RX12) (T := TX12) (N := 32) rfl inlX12 (by decide) mw_48_20 (fun _ _ _ _ h9 => h9) hf (by decide) rfl dX12_drive_15  (fun v3 hf => ?_)
      refine z_iload_n 1 dX12_drive_18 rfl rfl ?_
      refine z_sI hf dX12_drive_19  (fun d4 hf => ?_)
      refine z_aload_n 0 dX12_drive_20 rfl rfl ?_
      refine z_gP (ci := 12) (k := 26) (C := RX12) (T := TX12) (N := 32) rfl inlX12 (by decide) mw_7_11 (fun _ _ _ _ h9 => h9) hf (by decide) rfl dX12_drive_21  (fun v5 hf => ?_)
      refine z_aload_n 0 dX12_drive_24 rfl rfl ?_
      refine z_gI (ci := 12) (k := 24) (C := RX12) (T := TX12) (N := 32) rfl inlX12 (by decide) mw_48_20 (fun _ _ _ _ h9 => h9) hf (by decide) rfl dX12_drive_25  (fun v6 hf => ?_)
      refine z_iload_n 2 dX12_drive_28 rfl rfl ?_
      refine z_sI hf dX12_drive_29  (fun d7 hf => ?_)
      refine z_aload_n 0 dX12_drive_30 rfl rfl ?_
      refine z_gP (ci := 12) (k := 27) (C := RX12) (T := TX12) (N := 32) rfl inlX12 (by decide) mw_7_12 (fun _ _ _ _ h9 => h9) hf (by decide) rfl dX12_drive_31  (fun v8 hf => ?_)
      refine z_aload_n 0 dX12_drive_34 rfl rfl ?_
      refine z_gI (ci := 12) (k := 24) (C := RX12) (T := TX12) (N := 32) rfl inlX12 (by decide) mw_48_20 (fun _ _ _ _ h9 => h9) hf (by decide) rfl dX12_drive_35  (fun v9 hf => ?_)
      refine z_iload_n 3 dX12_drive_38 rfl rfl ?_
      refine z_if_eq 46 hf dX12_drive_39 (by decide) (fun hf => ?_) (fun hf => ?_)
      · refine z_iconst 0 0 dX12_drive_46 (by decide) ?_
        refine z_lv [(0, .ref l0)] [0] rfl ?_
        exact zb_X12_drive_47 hE hf
      · refine z_iconst 1 1 dX12_drive_42 (by decide) ?_
        refine z_goto 47 dX12_drive_43 (by decide) ?_
        refine z_lv [(0, .ref l0)] [0] rfl ?_
        exact zb_X12_drive_47 hE hf
  · cases hf
set_option maxRecDepth 20000 in
theorem zb_X12_follows_135 {N : Nat} {sh : Sh} {r : Dt} {E : EV} (hE : TG E none (sh, r))   {d : Dt} (hf : f_X12_follows_135 N sh  d = some r) : Z E yX12_follows cX12_follows 7 none 2 (sh, d) 135 [] [] := by
  unfold f_X12_follows_135 at hf
  cases hf
  exact z_return hE rfl dX12_follows_135
set_option maxRecDepth 20000 in
theorem zb_X12_follows_132 {N : Nat} {sh : Sh} {k32 : Nat → Nat → Int32 → Dt → Option Dt} {r : Dt} {E : EV} (hE : TG E none (sh, r)) (hk32 : ∀ (l0 : Nat) (l2 : Nat) (l3 : Int32) (d : Dt), k32 l0 l2 l3 d = some r → Z E yX12_follows cX12_follows 7 none 2 (sh, d) 32 [(0, .ref l0), (2, .ref l2), (3, .int l3)] []) {l0 : Nat} {l2 : Nat} {l3 : Int32} {d : Dt} (hf : f_X12_follows_132 N sh k32 l0 l2 l3 d = some r) : Z E yX12_follows cX12_follows 7 none 2 (sh, d) 132 [(0, .ref l0), (2, .ref l2), (3, .int l3)] [] := by
  unfold f_X12_follows_132 at hf
  refine z_goto 32 dX12_follows_132 (by decide) ?_
  exact hk32 _ _ _ _ hf
set_option maxRecDepth 20000 in
theorem zb_X12_follows_126 {N : Nat} {sh : Sh} {k32 : Nat → Nat → Int32 → Dt → Option Dt} {k41 : Nat → Nat → Int32 → Int32 → Dt → Option Dt} {r : Dt} {E : EV} (hE : TG E none (sh, r)) (hk32 : ∀ (l0 : Nat) (l2 : Nat) (l3 : Int32) (d : Dt), k32 l0 l2 l3 d = some r → Z E yX12_follows cX12_follows 7 none 2 (sh, d) 32 [(0, .ref l0), (2, .ref l2), (3, .int l3)] []) (hk41 : ∀ (l0 : Nat) (l2 : Nat) (l3 : Int32) (l4 : Int32) (d : Dt), k41 l0 l2 l3 l4 d = some r → Z E yX12_follows cX12_follows 7 none 2 (sh, d) 41 [(0, .ref l0), (2, .ref l2), (3, .int l3), (4, .int l4)] []) {l0 : Nat} {l2 : Nat} {l3 : Int32} {l4 : Int32} {d : Dt} (hf : f_X12_follows_126 N sh k32 k41 l0 l2 l3 l4 d = some r) : Z E yX12_follows cX12_follows 7 none 2 (sh, d) 126 [(0, .ref l0), (2, .ref l2), (3, .int l3), (4, .int l4)] [] := by
  unfold f_X12_follows_126 at hf
  refine z_iinc [(4, .int (l4 + 1)), (0, .ref l0), (2, .ref l2), (3, .int l3)] 3 (l4 + 1) dX12_follows_126 rfl rfl (by decide) rfl ?_
  refine z_goto 41 dX12_follows_129 (by decide) ?_
  refine z_lv [(0, .ref l0), (2, .ref l2), (3, .int l3), (4, .int (l4 + 1))] [1, 2, 3, 0] rfl ?_
  exact hk41 _ _ _ _ _ hf
set_option maxRecDepth 20000 in
theorem zg_X12_follows_41 {N : Nat} {sh : Sh} {k32 : Nat → Nat → Int32 → Dt → Option Dt} {r : Dt} {k41 : Nat → Nat → Int32 → Int32 → Dt → Option Dt} {E : EV} (hE : TG E none (sh, r)) (hk32 : ∀ (l0 : Nat) (l2 : Nat) (l3 : Int32) (d : Dt), k32 l0 l2 l3 d = some r → Z E yX12_follows cX12_follows 7 none 2 (sh, d) 32 [(0, .ref l0), (2, .ref l2), (3, .int l3)] []) (hk41 : ∀ (l0 : Nat) (l2 : Nat) (l3 : Int32) (l4 : Int32) (d : Dt), k41 l0 l2 l3 l4 d = some r → Z E yX12_follows cX12_follows 7 none 2 (sh, d) 41 [(0, .ref l0), (2, .ref l2), (3, .int l3), (4, .int l4)] []) {l0 : Nat} {l2 : Nat} {l3 : Int32} {l4 : Int32} {d : Dt} (hf : g_X12_follows_41 N sh k32 k41 l0 l2 l3 l4 d = some r) : Z E yX12_follows cX12_follows 7 none 2 (sh, d) 41 [(0, .ref l0), (2, .ref l2), (3, .int l3), (4, .int l4)] [] := by
  unfold g_X12_follows_41 at hf
  refine z_iload 3 dX12_follows_41 rfl ?_
  refine z_aload_n 0 dX12_follows_43 rfl rfl ?_
  refine z_gP (ci := 12) (k := 0) (C := RX12) (T := TX12) (N := 32) rfl inlX12 (by decide) mw_6_19 (fun _ _ _ _ h9 => h9) hf (by decide) rfl dX12_follows_44  (fun v3 hf => ?_)
  refine z_iconst 1 1 dX12_follows_47 (by decide) ?_
  refine z_aI hf dX12_follows_48  (fun v4 hf => ?_)
  refine z_icmp_ge 132 hf dX12_follows_49 (by decide) (fun hf => ?_) (fun hf => ?_)
  · refine z_lv [(0, .ref l0), (2, .ref l2), (3, .int l3)] [0, 1, 2] rfl ?_
    exact zb_X12_follows_132 hE hk32 hf
  · refine z_aload_n 0 dX12_follows_52 rfl rfl ?_
    refine z_gP (ci := 12) (k := 0) (C := RX12) (T := TX12) (N := 32) rfl inlX12 (by decide) mw_6_19 (fun _ _ _ _ h9 => h9) hf (by decide) rfl dX12_follows_53  (fun v5 hf => ?_)
    refine z_aload_n 0 dX12_follows_56 rfl rfl ?_
    refine z_iload 3 dX12_follows_57 rfl ?_
    obtain ⟨v6, ev6, hf⟩ := ob hf
    refine z_cVi (ci := 12) (T := TX12) (N := 32) (As := [.int l4]) (rest := [.ref v5]) (zm_X12_st ev6).2 (zm_X12_st ev6).1 (by decide) rfl (Or.inl rfl) mw_13_10 mw_13_11 mw_13_12 mw_1_5 mw_13_13 yk_X12_st (by decide) (by decide) rfl (Nat.le_of_ble_eq_true rfl) rfl dX12_follows_59 ?_
    refine z_bipush 7 7 dX12_follows_62 (by decide) ?_
    refine z_iadd dX12_follows_64 ?_
    refine z_aI hf dX12_follows_65  (fun v7 hf => ?_)
    refine z_istore [(5, .int v7), (0, .ref l0), (2, .ref l2), (3, .int l3), (4, .int l4)] dX12_follows_66 (by decide) rfl ?_
    refine z_aload_n 1 dX12_follows_68 rfl rfl ?_
    refine z_gP (ci := 12) (k := 0) (C := RX12) (T := TX12) (N := 32) rfl inlX12 (by decide) mw_6_19 (fun _ _ _ _ h9 => h9) hf (by decide) rfl dX12_follows_69  (fun v8 hf => ?_)
    refine z_aload_n 1 dX12_follows_72 rfl rfl ?_
    refine z_iload 4 dX12_follows_73 rfl ?_
    obtain ⟨v9, ev9, hf⟩ := ob hf
    refine z_cVi (ci := 12) (T := TX12) (N := 32) (As := [.int l4]) (rest := [.ref v8]) (zm_X12_st ev9).2 (zm_X12_st ev9).1 (by decide) rfl (Or.inl rfl) mw_13_10 mw_13_11 mw_13_12 mw_1_5 mw_13_13 yk_X12_st (by decide) (by decide) rfl (Nat.le_of_ble_eq_true rfl) rfl dX12_follows_75 ?_
    refine z_bipush 8 8 dX12_follows_78 (by decide) ?_
    refine z_iadd dX12_follows_80 ?_
    refine z_aI hf dX12_follows_81  (fun v10 hf => ?_)
    refine z_istore [(6, .int v10), (5, .int v7), (0, .ref l0), (2, .ref l2), (3, .int l3), (4, .int l4)] dX12_follows_82 (by decide) rfl ?_
    refine z_aload_n 3 dX12_follows_84 rfl rfl ?_
    refine z_iload 5 dX12_follows_85 rfl ?_
    refine z_aI hf dX12_follows_87  (fun v11 hf => ?_)
    refine z_if_le 126 hf dX12_follows_88 (by decide) (fun hf => ?_) (fun hf => ?_)
    · refine z_lv [(0, .ref l0), (2, .ref l2), (3, .int l3), (4, .int l4)] [2, 3, 4, 5] rfl ?_
      exact zb_X12_follows_126 hE hk32 hk41 hf
    · refine z_aload_n 2 dX12_follows_91 rfl rfl ?_
      refine z_gP (ci := 12) (k := 17) (C := RX12) (T := TX12) (N := 32) rfl inlX12 (by decide) mw_7_6 (fun _ _ _ _ h9 => h9) hf (by decide) rfl dX12_follows_92  (fun v12 hf => ?_)
      refine z_iload 1 dX12_follows_95 rfl ?_
      refine z_aZ hf dX12_follows_97  (fun v13 hf => ?_)
      refine z_aload_n 2 dX12_follows_98 rfl rfl ?_
      refine z_gP (ci := 12) (k := 17) (C := RX12) (T := TX12) (N := 32) rfl inlX12 (by decide) mw_7_6 (fun _ _ _ _ h9 => h9) hf (by decide) rfl dX12_follows_99  (fun v14 hf => ?_)
      refine z_iload 0 dX12_follows_102 rfl ?_
      refine z_aZ hf dX12_follows_104  (fun v15 hf => ?_)
      refine z_icmp_eq 126 hf dX12_follows_105 (by decide) (fun hf => ?_) (fun hf => ?_)
      · refine z_lv [(0, .ref l0), (2, .ref l2), (3, .int l3), (4, .int l4)] [2, 3, 4, 5] rfl ?_
        exact zb_X12_follows_126 hE hk32 hk41 hf
      · refine z_aload_n 2 dX12_follows_108 rfl rfl ?_
        refine z_gP (ci := 12) (k := 17) (C := RX12) (T := TX12) (N := 32) rfl inlX12 (by decide) mw_7_6 (fun _ _ _ _ h9 => h9) hf (by decide) rfl dX12_follows_109  (fun v16 hf => ?_)
        refine z_iload 1 dX12_follows_112 rfl ?_
        refine z_iconst 1 1 dX12_follows_114 (by decide) ?_
        refine z_sZ hf dX12_follows_115  (fun d17 hf => ?_)
        refine z_aload_n 2 dX12_follows_116 rfl rfl ?_
        refine z_gP (ci := 12) (k := 17) (C := RX12) (T := TX12) (N := 32) rfl inlX12 (by decide) mw_7_6 (fun _ _ _ _ h9 => h9) hf (by decide) rfl dX12_follows_117  (fun v18 hf => ?_)
        refine z_iload 0 dX12_follows_120 rfl ?_
        refine z_iconst 1 1 dX12_follows_122 (by decide) ?_
        refine z_sZ hf dX12_follows_123  (fun d19 hf => ?_)
        refine z_iconst 1 1 dX12_follows_124 (by decide) ?_
        refine z_istore_n [(3, .int (1 : Int32)), (6, .int v10), (5, .int v7), (0, .ref l0), (2, .ref l2), (4, .int l4)] dX12_follows_125 rfl (by decide) rfl ?_
        refine z_lv [(0, .ref l0), (2, .ref l2), (3, .int (1 : Int32)), (4, .int l4)] [3, 4, 0, 5] rfl ?_
        exact zb_X12_follows_126 hE hk32 hk41 hf
set_option maxRecDepth 20000 in
theorem zb_X12_follows_41 {N : Nat} {sh : Sh} {k32 : Nat → Nat → Int32 → Dt → Option Dt} {r : Dt} {E : EV} (hE : TG E none (sh, r)) (hk32 : ∀ (l0 : Nat) (l2 : Nat) (l3 : Int32) (d : Dt), k32 l0 l2 l3 d = some r → Z E yX12_follows cX12_follows 7 none 2 (sh, d) 32 [(0, .ref l0), (2, .ref l2), (3, .int l3)] []) : ∀ (n : Nat) (l0 : Nat) (l2 : Nat) (l3 : Int32) (l4 : Int32) (d : Dt), f_X12_follows_41 N sh k32 n l0 l2 l3 l4 d = some r → Z E yX12_follows cX12_follows 7 none 2 (sh, d) 41 [(0, .ref l0), (2, .ref l2), (3, .int l3), (4, .int l4)] [] := by
  intro n
  induction n with
  | zero => intro l0 l2 l3 l4 d hf; cases hf
  | succ n ih => intro l0 l2 l3 l4 d hf; exact zg_X12_follows_41 hE hk32 ih hf
set_option maxRecDepth 20000 in
theorem zg_X12_follows_32 {N : Nat} {sh : Sh} {r : Dt} {k32 : Nat → Nat → Int32 → Dt → Option Dt} {E : EV} (hE : TG E none (sh, r))  (hk32 : ∀ (l0 : Nat) (l2 : Nat) (l3 : Int32) (d : Dt), k32 l0 l2 l3 d = some r → Z E yX12_follows cX12_follows 7 none 2 (sh, d) 32 [(0, .ref l0), (2, .ref l2), (3, .int l3)] []) {l0 : Nat} {l2 : Nat} {l3 : Int32} {d : Dt} (hf : g_X12_follows_32 N sh k32 l0 l2 l3 d = some r) : Z E yX12_follows cX12_follows 7 none 2 (sh, d) 32 [(0, .ref l0), (2, .ref l2), (3, .int l3)] [] := by
  unfold g_X12_follows_32 at hf
  refine z_iload_n 2 dX12_follows_32 rfl rfl ?_
  refine z_if_eq 135 hf dX12_follows_33 (by decide) (fun hf => ?_) (fun hf => ?_)
  · refine z_lv [] [] rfl ?_
    exact zb_X12_follows_135 hE hf
  · refine z_iconst 0 0 dX12_follows_36 (by decide) ?_
    refine z_istore_n [(3, .int (0 : Int32)), (0, .ref l0), (2, .ref l2)] dX12_follows_37 rfl (by decide) rfl ?_
    refine z_iconst 0 0 dX12_follows_38 (by decide) ?_
    refine z_istore [(4, .int (0 : Int32)), (3, .int (0 : Int32)), (0, .ref l0), (2, .ref l2)] dX12_follows_39 (by decide) rfl ?_
    refine z_lv [(0, .ref l0), (2, .ref l2), (3, .int (0 : Int32)), (4, .int (0 : Int32))] [2, 3, 1, 0] rfl ?_
    exact zb_X12_follows_41 hE hk32 N _ _ _ _ _ hf
set_option maxRecDepth 20000 in
theorem zb_X12_follows_32 {N : Nat} {sh : Sh} {r : Dt} {E : EV} (hE : TG E none (sh, r))  : ∀ (n : Nat) (l0 : Nat) (l2 : Nat) (l3 : Int32) (d : Dt), f_X12_follows_32 N sh n l0 l2 l3 d = some r → Z E yX12_follows cX12_follows 7 none 2 (sh, d) 32 [(0, .ref l0), (2, .ref l2), (3, .int l3)] [] := by
  intro n
  induction n with
  | zero => intro l0 l2 l3 d hf; cases hf
  | succ n ih => intro l0 l2 l3 d hf; exact zg_X12_follows_32 hE ih hf
set_option maxRecDepth 20000 in
theorem zb_X12_follows_30 {N : Nat} {sh : Sh} {r : Dt} {E : EV} (hE : TG E none (sh, r))  {l0 : Nat} {l2 : Nat} {d : Dt} (hf : f_X12_follows_30 N sh l0 l2 d = some r) : Z E yX12_follows cX12_follows 7 none 2 (sh, d) 30 [(0, .ref l0), (2, .ref l2)] [] := by
  unfold f_X12_follows_30 at hf
  refine z_iconst 1 1 dX12_follows_30 (by decide) ?_
  refine z_istore_n [(3, .int (1 : Int32)), (0, .ref l0), (2, .ref l2)] dX12_follows_31 rfl (by decide) rfl ?_
  refine z_lv [(0, .ref l0), (2, .ref l2), (3, .int (1 : Int32))] [1, 2, 0] rfl ?_
  exact zb_X12_follows_32 hE N _ _ _ _ hf
set_option maxRecDepth 20000 in
theorem zb_X12_follows_23 {N : Nat} {sh : Sh} {k2 : Nat → Int32 → Nat → Int32 → Dt → Option Dt} {r : Dt} {E : EV} (hE : TG E none (sh, r)) (hk2 : ∀ (l0 : Nat) (l1 : Int32) (l2 : Nat) (l3 : Int32) (d : Dt), k2 l0 l1 l2 l3 d = some r → Z E yX12_follows cX12_follows 7 none 2 (sh, d) 2 [(0, .ref l0), (1, .int l1), (2, .ref l2), (3, .int l3)] []) {l0 : Nat} {l1 : Int32} {l2 : Nat} {l3 : Int32} {t0 : Nat} {t1 : Int32} {t2 : Int32} {d : Dt} (hf : f_X12_follows_23 N sh k2 l0 l1 l2 l3 t0 t1 t2 d = some r) : Z E yX12_follows cX12_follows 7 none 2 (sh, d) 23 [(0, .ref l0), (1, .int l1), (2, .ref l2), (3, .int l3)] [.int t2, .int t1, .ref t0] := by
  unfold f_X12_follows_23 at hf
  refine z_sZ hf dX12_follows_23  (fun d2 hf => ?_)
  refine z_iinc [(3, .int (l3 + 1)), (0, .ref l0), (1, .int l1), (2, .ref l2)] 3 (l3 + 1) dX12_follows_24 rfl rfl (by decide) rfl ?_
  refine z_goto 2 dX12_follows_27 (by decide) ?_
  refine z_lv [(0, .ref l0), (1, .int l1), (2, .ref l2), (3, .int (l3 + 1))] [1, 2, 3, 0] rfl ?_
  exact hk2 _ _ _ _ _ hf
set_option maxRecDepth 20000 in
theorem zg_X12_follows_2 {N : Nat} {sh : Sh} {r : Dt} {k2 : Nat → Int32 → Nat → Int32 → Dt → Option Dt} {E : EV} (hE : TG E none (sh, r))  (hk2 : ∀ (l0 : Nat) (l1 : Int32) (l2 : Nat) (l3 : Int32) (d : Dt), k2 l0 l1 l2 l3 d = some r → Z E yX12_follows cX12_follows 7 none 2 (sh, d) 2 [(0, .ref l0), (1, .int l1), (2, .ref l2), (3, .int l3)] []) {l0 : Nat} {l1 : Int32} {l2 : Nat} {l3 : Int32} {d : Dt} (hf : g_X12_follows_2 N sh k2 l0 l1 l2 l3 d = some r) : Z E yX12_follows cX12_follows 7 none 2 (sh, d) 2 [(0, .ref l0), (1, .int l1), (2, .ref l2), (3, .int l3)] [] := by
  unfold g_X12_follows_2 at hf
  refine z_iload_n 3 dX12_follows_2 rfl rfl ?_
  refine z_bipush 60 60 dX12_follows_3 (by decide) ?_
  refine z_icmp_ge 30 hf dX12_follows_5 (by decide) (fun hf => ?_) (fun hf => ?_)
  · refine z_lv [(0, .ref l0), (2, .ref l2)] [0, 2] rfl ?_
    exact zb_X12_follows_30 hE hf
  · refine z_aload_n 0 dX12_follows_8 rfl rfl ?_
    refine z_gP (ci := 12) (k := 17) (C := RX12) (T := TX12) (N := 32) rfl inlX12 (by decide) mw_7_6 (fun _ _ _ _ h9 => h9) hf (by decide) rfl dX12_follows_9  (fun v1 hf => ?_)
    refine z_iload_n 3 dX12_follows_12 rfl rfl ?_
    refine z_iload_n 3 dX12_follows_13 rfl rfl ?_
    refine z_iload_n 1 dX12_follows_14 rfl rfl ?_
    refine z_icmp_ne 22 hf dX12_follows_15 (by decide) (fun hf => ?_) (fun hf => ?_)
    · refine z_iconst 0 0 dX12_follows_22 (by decide) ?_
      exact zb_X12_follows_23 hE hk2 hf
    · refine z_iconst 1 1 dX12_follows_18 (by decide) ?_
      refine z_goto 23 dX12_follows_19 (by decide) ?_
      exact zb_X12_follows_23 hE hk2 hf
set_option maxRecDepth 20000 in
theorem zb_X12_follows_2 {N : Nat} {sh : Sh} {r : Dt} {E : EV} (hE : TG E none (sh, r))  : ∀ (n : Nat) (l0 : Nat) (l1 : Int32) (l2 : Nat) (l3 : Int32) (d : Dt), f_X12_follows_2 N sh n l0 l1 l2 l3 d = some r → Z E yX12_follows cX12_follows 7 none 2 (sh, d) 2 [(0, .ref l0), (1, .int l1), (2, .ref l2), (3, .int l3)] [] := by
  intro n
  induction n with
  | zero => intro l0 l1 l2 l3 d hf; cases hf
  | succ n ih => intro l0 l1 l2 l3 d hf; exact zg_X12_follows_2 hE ih hf
set_option maxRecDepth 20000 in
theorem zm_X12_follows {N : Nat} {sh : Sh} {d : Dt} {l0 : Nat} {l1 : Int32} {l2 : Nat} {r : Dt} (hf : f_X12_follows N sh l0 l1 l2 d = some r) : isO sh l0 12 ∧ ∀ (l : Launch) (G : GG), Mt l G yX12_follows cX12_follows 7 none 2 [.ref l0, .int l1, .ref l2] (sh, d) none (sh, r) := by
  have hf0 := hf
  unfold f_X12_follows at hf
  refine ite_d hf (fun hO hf => ?_) (fun _ hf => ?_)
  · refine ⟨hO, fun l G => mt_of (Or.inl (by decide)) (Nat.le_of_ble_eq_true rfl) Le.rf (fun E hE => ?_)⟩
    show Z E yX12_follows cX12_follows 7 none 2 (sh, d) 0 [(0, .ref l0), (1, .int l1), (2, .ref l2)] []
    refine z_iconst 0 0 dX12_follows_0 (by decide) ?_
    refine z_istore_n [(3, .int (0 : Int32)), (0, .ref l0), (1, .int l1), (2, .ref l2)] dX12_follows_1 rfl (by decide) rfl ?_
    refine z_lv [(0, .ref l0), (1, .int l1), (2, .ref l2), (3, .int (0 : Int32))] [1, 2, 3, 0] rfl ?_
    exact zb_X12_follows_2 hE N _ _ _ _ _ hf
  · cases hf
set_option maxRecDepth 20000 in
theorem zb_X12_hasMore_57 {N : Nat} {sh : Sh} {d : Dt} {r : Int32} {E : EV} (hE : TG E (some (.int r)) (sh, d))  {l2 : Int32} (hf : f_X12_hasMore_57 N sh l2 d = some r) : Z E yX12_hasMore cX12_hasMore 4 (some .boolean) 2 (sh, d) 57 [(2, .int l2)] [] := by
  unfold f_X12_hasMore_57 at hf
  refine z_iload_n 0 dX12_hasMore_57 rfl rfl ?_
  obtain ⟨v9, ev9, hg⟩ := ob hf
  obtain ⟨rfl, hbv9⟩ := o_bool_spec ev9
  cases hg
  exact z_zreturn hE rfl hbv9 dX12_hasMore_58
set_option maxRecDepth 20000 in
theorem zb_X12_hasMore_50 {N : Nat} {sh : Sh} {d : Dt} {k4 : Nat → Nat → Int32 → Int32 → Option Int32} {r : Int32} {E : EV} (hE : TG E (some (.int r)) (sh, d)) (hk4 : ∀ (l0 : Nat) (l1 : Nat) (l2 : Int32) (l3 : Int32), k4 l0 l1 l2 l3 = some r → Z E yX12_hasMore cX12_hasMore 4 (some .boolean) 2 (sh, d) 4 [(0, .ref l0), (1, .ref l1), (2, .int l2), (3, .int l3)] []) {l0 : Nat} {l1 : Nat} {l3 : Int32} {t0 : Int32} (hf : f_X12_hasMore_50 N sh k4 l0 l1 l3 t0 d = some r) : Z E yX12_hasMore cX12_hasMore 4 (some .boolean) 2 (sh, d) 50 [(0, .ref l0), (1, .ref l1), (3, .int l3)] [.int t0] := by
  unfold f_X12_hasMore_50 at hf
  refine z_istore_n [(2, .int t0), (0, .ref l0), (1, .ref l1), (3, .int l3)] dX12_hasMore_50 rfl (by decide) rfl ?_
  refine z_iinc [(3, .int (l3 + 1)), (2, .int t0), (0, .ref l0), (1, .ref l1)] 3 (l3 + 1) dX12_hasMore_51 rfl rfl (by decide) rfl ?_
  refine z_goto 4 dX12_hasMore_54 (by decide) ?_
  refine z_lv [(0, .ref l0), (1, .ref l1), (2, .int t0), (3, .int (l3 + 1))] [2, 3, 1, 0] rfl ?_
  exact hk4 _ _ _ _ hf
set_option maxRecDepth 20000 in
theorem zb_X12_hasMore_45 {N : Nat} {sh : Sh} {d : Dt} {k4 : Nat → Nat → Int32 → Int32 → Option Int32} {r : Int32} {E : EV} (hE : TG E (some (.int r)) (sh, d)) (hk4 : ∀ (l0 : Nat) (l1 : Nat) (l2 : Int32) (l3 : Int32), k4 l0 l1 l2 l3 = some r → Z E yX12_hasMore cX12_hasMore 4 (some .boolean) 2 (sh, d) 4 [(0, .ref l0), (1, .ref l1), (2, .int l2), (3, .int l3)] []) {l0 : Nat} {l1 : Nat} {l3 : Int32} (hf : f_X12_hasMore_45 N sh k4 l0 l1 l3 d = some r) : Z E yX12_hasMore cX12_hasMore 4 (some .boolean) 2 (sh, d) 45 [(0, .ref l0), (1, .ref l1), (3, .int l3)] [] := by
  unfold f_X12_hasMore_45 at hf
  refine z_iconst 1 1 dX12_hasMore_45 (by decide) ?_
  refine z_goto 50 dX12_hasMore_46 (by decide) ?_
  exact zb_X12_hasMore_50 hE hk4 hf
set_option maxRecDepth 20000 in
theorem zb_X12_hasMore_49 {N : Nat} {sh : Sh} {d : Dt} {k4 : Nat → Nat → Int32 → Int32 → Option Int32} {r : Int32} {E : EV} (hE : TG E (some (.int r)) (sh, d)) (hk4 : ∀ (l0 : Nat) (l1 : Nat) (l2 : Int32) (l3 : Int32), k4 l0 l1 l2 l3 = some r → Z E yX12_hasMore cX12_hasMore 4 (some .boolean) 2 (sh, d) 4 [(0, .ref l0), (1, .ref l1), (2, .int l2), (3, .int l3)] []) {l0 : Nat} {l1 : Nat} {l3 : Int32} (hf : f_X12_hasMore_49 N sh k4 l0 l1 l3 d = some r) : Z E yX12_hasMore cX12_hasMore 4 (some .boolean) 2 (sh, d) 49 [(0, .ref l0), (1, .ref l1), (3, .int l3)] [] := by
  unfold f_X12_hasMore_49 at hf
  refine z_iconst 0 0 dX12_hasMore_49 (by decide) ?_
  exact zb_X12_hasMore_50 hE hk4 hf
set_option maxRecDepth 20000 in
theorem zg_X12_hasMore_4 {N : Nat} {sh : Sh} {d : Dt} {r : Int32} {k4 : Nat → Nat → Int32 → Int32 → Option Int32} {E : EV} (hE : TG E (some (.int r)) (sh, d))  (hk4 : ∀ (l0 : Nat) (l1 : Nat) (l2 : Int32) (l3 : Int32), k4 l0 l1 l2 l3 = some r → Z E yX12_hasMore cX12_hasMore 4 (some .boolean) 2 (sh, d) 4 [(0, .ref l0), (1, .ref l1), (2, .int l2), (3, .int l3)] []) {l0 : Nat} {l1 : Nat} {l2 : Int32} {l3 : Int32} (hf : g_X12_hasMore_4 N sh k4 l0 l1 l2 l3 d = some r) : Z E yX12_hasMore cX12_hasMore 4 (some .boolean) 2 (sh, d) 4 [(0, .ref l0), (1, .ref l1), (2, .int l2), (3, .int l3)] [] := by
  unfold g_X12_hasMore_4 at hf
  refine z_iload_n 3 dX12_hasMore_4 rfl rfl ?_
  refine z_aload_n 0 dX12_hasMore_5 rfl rfl ?_
  refine z_gP (ci := 12) (k := 0) (C := RX12) (T := TX12) (N := 32) rfl inlX12 (by decide) mw_6_19 (fun _ _ _ _ h9 => h9) hf (by decide) rfl dX12_hasMore_6  (fun v1 hf => ?_)
  refine z_iconst 1 1 dX12_hasMore_9 (by decide) ?_
  refine z_aI hf dX12_hasMore_10  (fun v2 hf => ?_)
  refine z_icmp_ge 57 hf dX12_hasMore_11 (by decide) (fun hf => ?_) (fun hf => ?_)
  · refine z_lv [(2, .int l2)] [2] rfl ?_
    exact zb_X12_hasMore_57 hE hf
  · refine z_iload_n 2 dX12_hasMore_14 rfl rfl ?_
    refine z_if_ne 45 hf dX12_hasMore_15 (by decide) (fun hf => ?_) (fun hf => ?_)
    · refine z_lv [(0, .ref l0), (1, .ref l1), (3, .int l3)] [0, 1, 3] rfl ?_
      exact zb_X12_hasMore_45 hE hk4 hf
    · refine z_aload_n 1 dX12_hasMore_18 rfl rfl ?_
      refine z_iload_n 3 dX12_hasMore_19 rfl rfl ?_
      refine z_aI hf dX12_hasMore_20  (fun v3 hf => ?_)
      refine z_if_le 49 hf dX12_hasMore_21 (by decide) (fun hf => ?_) (fun hf => ?_)
      · refine z_lv [(0, .ref l0), (1, .ref l1), (3, .int l3)] [0, 1, 3] rfl ?_
        exact zb_X12_hasMore_49 hE hk4 hf
      · refine z_aload_n 0 dX12_hasMore_24 rfl rfl ?_
        refine z_gP (ci := 12) (k := 17) (C := RX12) (T := TX12) (N := 32) rfl inlX12 (by decide) mw_7_6 (fun _ _ _ _ h9 => h9) hf (by decide) rfl dX12_hasMore_25  (fun v4 hf => ?_)
        refine z_aload_n 0 dX12_hasMore_28 rfl rfl ?_
        refine z_gP (ci := 12) (k := 0) (C := RX12) (T := TX12) (N := 32) rfl inlX12 (by decide) mw_6_19 (fun _ _ _ _ h9 => h9) hf (by decide) rfl dX12_hasMore_29  (fun v5 hf => ?_)
        refine z_aload_n 0 dX12_hasMore_32 rfl rfl ?_
        refine z_iload_n 3 dX12_hasMore_33 rfl rfl ?_
        obtain ⟨v6, ev6, hf⟩ := ob hf
        refine z_cVi (ci := 12) (T := TX12) (N := 32) (As := [.int l3]) (rest := [.ref v5, .ref v4]) (zm_X12_st ev6).2 (zm_X12_st ev6).1 (by decide) rfl (Or.inl rfl) mw_13_10 mw_13_11 mw_13_12 mw_1_5 mw_13_13 yk_X12_st (by decide) (by decide) rfl (Nat.le_of_ble_eq_true rfl) rfl dX12_hasMore_34 ?_
        refine z_bipush 7 7 dX12_hasMore_37 (by decide) ?_
        refine z_iadd dX12_hasMore_39 ?_
        refine z_aI hf dX12_hasMore_40  (fun v7 hf => ?_)
        refine z_aZ hf dX12_hasMore_41  (fun v8 hf => ?_)
        refine z_if_ne 49 hf dX12_hasMore_42 (by decide) (fun hf => ?_) (fun hf => ?_)
        · refine z_lv [(0, .ref l0), (1, .ref l1), (3, .int l3)] [0, 1, 3] rfl ?_
          exact zb_X12_hasMore_49 hE hk4 hf
        · refine z_lv [(0, .ref l0), (1, .ref l1), (3, .int l3)] [0, 1, 3] rfl ?_
          exact zb_X12_hasMore_45 hE hk4 hf
set_option maxRecDepth 20000 in
theorem zb_X12_hasMore_4 {N : Nat} {sh : Sh} {d : Dt} {r : Int32} {E : EV} (hE : TG E (some (.int r)) (sh, d))  : ∀ (n : Nat) (l0 : Nat) (l1 : Nat) (l2 : Int32) (l3 : Int32), f_X12_hasMore_4 N sh d n l0 l1 l2 l3 = some r → Z E yX12_hasMore cX12_hasMore 4 (some .boolean) 2 (sh, d) 4 [(0, .ref l0), (1, .ref l1), (2, .int l2), (3, .int l3)] [] := by
  intro n
  induction n with
  | zero => intro l0 l1 l2 l3 hf; cases hf
  | succ n ih => intro l0 l1 l2 l3 hf; exact zg_X12_hasMore_4 hE ih hf
set_option maxRecDepth 20000 in
theorem zm_X12_hasMore {N : Nat} {sh : Sh} {d : Dt} {l0 : Nat} {l1 : Nat} {r : Int32} (hf : f_X12_hasMore N sh l0 l1 d = some r) : isO sh l0 12 ∧ ∀ (l : Launch) (G : GG), Mt l G yX12_hasMore cX12_hasMore 4 (some .boolean) 2 [.ref l0, .ref l1] (sh, d) (some (.int r)) (sh, d) := by
  have hf0 := hf
  unfold f_X12_hasMore at hf
  refine ite_d hf (fun hO hf => ?_) (fun _ hf => ?_)
  · refine ⟨hO, fun l G => mt_of (Or.inl (by decide)) (Nat.le_of_ble_eq_true rfl) Le.rf (fun E hE => ?_)⟩
    show Z E yX12_hasMore cX12_hasMore 4 (some .boolean) 2 (sh, d) 0 [(0, .ref l0), (1, .ref l1)] []
    refine z_iconst 0 0 dX12_hasMore_0 (by decide) ?_
    refine z_istore_n [(2, .int (0 : Int32)), (0, .ref l0), (1, .ref l1)] dX12_hasMore_1 rfl (by decide) rfl ?_
    refine z_iconst 0 0 dX12_hasMore_2 (by decide) ?_
    refine z_istore_n [(3, .int (0 : Int32)), (2, .int (0 : Int32)), (0, .ref l0), (1, .ref l1)] dX12_hasMore_3 rfl (by decide) rfl ?_
    refine z_lv [(0, .ref l0), (1, .ref l1), (2, .int (0 : Int32)), (3, .int (0 : Int32))] [2, 3, 1, 0] rfl ?_
    exact zb_X12_hasMore_4 hE N _ _ _ _ hf
  · cases hf
set_option maxRecDepth 20000 in
theorem zb_X12_nextStreet_97 {N : Nat} {sh : Sh} {r : Int32 × Dt} {E : EV} (hE : TG E (some (.int r.1)) (sh, r.2))   {d : Dt} (hf : f_X12_nextStreet_97 N sh  d = some r) : Z E yX12_nextStreet cX12_nextStreet 5 (some .int) 3 (sh, d) 97 [] [] := by
  unfold f_X12_nextStreet_97 at hf
  refine z_iconst (-1) (-1) dX12_nextStreet_97 (by decide) ?_
  cases hf
  exact z_ireturn hE rfl dX12_nextStreet_98
set_option maxRecDepth 20000 in
theorem zb_X12_nextStreet_91 {N : Nat} {sh : Sh} {k2 : Nat → Int32 → Int32 → Dt → Option (Int32 × Dt)} {r : Int32 × Dt} {E : EV} (hE : TG E (some (.int r.1)) (sh, r.2)) (hk2 : ∀ (l0 : Nat) (l1 : Int32) (l2 : Int32) (d : Dt), k2 l0 l1 l2 d = some r → Z E yX12_nextStreet cX12_nextStreet 5 (some .int) 3 (sh, d) 2 [(0, .ref l0), (1, .int l1), (2, .int l2)] []) {l0 : Nat} {l1 : Int32} {l2 : Int32} {d : Dt} (hf : f_X12_nextStreet_91 N sh k2 l0 l1 l2 d = some r) : Z E yX12_nextStreet cX12_nextStreet 5 (some .int) 3 (sh, d) 91 [(0, .ref l0), (1, .int l1), (2, .int l2)] [] := by
  unfold f_X12_nextStreet_91 at hf
  refine z_iinc [(2, .int (l2 + 1)), (0, .ref l0), (1, .int l1)] 2 (l2 + 1) dX12_nextStreet_91 rfl rfl (by decide) rfl ?_
  refine z_goto 2 dX12_nextStreet_94 (by decide) ?_
  refine z_lv [(0, .ref l0), (1, .int l1), (2, .int (l2 + 1))] [1, 2, 0] rfl ?_
  exact hk2 _ _ _ _ hf
set_option maxRecDepth 20000 in
theorem zb_X12_nextStreet_89 {N : Nat} {sh : Sh} {r : Int32 × Dt} {E : EV} (hE : TG E (some (.int r.1)) (sh, r.2))  {l2 : Int32} {d : Dt} (hf : f_X12_nextStreet_89 N sh l2 d = some r) : Z E yX12_nextStreet cX12_nextStreet 5 (some .int) 3 (sh, d) 89 [(2, .int l2)] [] := by
  unfold f_X12_nextStreet_89 at hf
  refine z_iload_n 0 dX12_nextStreet_89 rfl rfl ?_
  cases hf
  exact z_ireturn hE rfl dX12_nextStreet_90
set_option maxRecDepth 20000 in
theorem zb_X12_nextStreet_72 {N : Nat} {sh : Sh} {k2 : Nat → Int32 → Int32 → Dt → Option (Int32 × Dt)} {r : Int32 × Dt} {E : EV} (hE : TG E (some (.int r.1)) (sh, r.2)) (hk2 : ∀ (l0 : Nat) (l1 : Int32) (l2 : Int32) (d : Dt), k2 l0 l1 l2 d = some r → Z E yX12_nextStreet cX12_nextStreet 5 (some .int) 3 (sh, d) 2 [(0, .ref l0), (1, .int l1), (2, .int l2)] []) {l0 : Nat} {l1 : Int32} {l2 : Int32} {t0 : Int32} {d : Dt} (hf : f_X12_nextStreet_72 N sh k2 l0 l1 l2 t0 d = some r) : Z E yX12_nextStreet cX12_nextStreet 5 (some .int) 3 (sh, d) 72 [(0, .ref l0), (1, .int l1), (2, .int l2)] [.int t0] := by
  unfold f_X12_nextStreet_72 at hf
  refine z_istore [(4, .int t0), (0, .ref l0), (1, .int l1), (2, .int l2)] dX12_nextStreet_72 (by decide) rfl ?_
  refine z_aload_n 1 dX12_nextStreet_74 rfl rfl ?_
  refine z_gP (ci := 12) (k := 14) (C := RX12) (T := TX12) (N := 32) rfl inlX12 (by decide) mw_7_4 (fun _ _ _ _ h9 => h9) hf (by decide) rfl dX12_nextStreet_75  (fun v13 hf => ?_)
  refine z_iload_n 3 dX12_nextStreet_78 rfl rfl ?_
  refine z_dup2_11 dX12_nextStreet_79 rfl rfl ?_
  refine z_aI hf dX12_nextStreet_80  (fun v14 hf => ?_)
  refine z_iconst 1 1 dX12_nextStreet_81 (by decide) ?_
  refine z_iadd dX12_nextStreet_82 ?_
  refine z_sI hf dX12_nextStreet_83  (fun d15 hf => ?_)
  refine z_iload 0 dX12_nextStreet_84 rfl ?_
  refine z_if_eq 91 hf dX12_nextStreet_86 (by decide) (fun hf => ?_) (fun hf => ?_)
  · refine z_lv [(0, .ref l0), (1, .int l1), (2, .int l2)] [1, 2, 3] rfl ?_
    exact zb_X12_nextStreet_91 hE hk2 hf
  · refine z_lv [(2, .int l2)] [3] rfl ?_
    exact zb_X12_nextStreet_89 hE hf
set_option maxRecDepth 20000 in
theorem zb_X12_nextStreet_31 {N : Nat} {sh : Sh} {k2 : Nat → Int32 → Int32 → Dt → Option (Int32 × Dt)} {r : Int32 × Dt} {E : EV} (hE : TG E (some (.int r.1)) (sh, r.2)) (hk2 : ∀ (l0 : Nat) (l1 : Int32) (l2 : Int32) (d : Dt), k2 l0 l1 l2 d = some r → Z E yX12_nextStreet cX12_nextStreet 5 (some .int) 3 (sh, d) 2 [(0, .ref l0), (1, .int l1), (2, .int l2)] []) {l0 : Nat} {l1 : Int32} {l2 : Int32} {t0 : Int32} {d : Dt} (hf : f_X12_nextStreet_31 N sh k2 l0 l1 l2 t0 d = some r) : Z E yX12_nextStreet cX12_nextStreet 5 (some .int) 3 (sh, d) 31 [(0, .ref l0), (1, .int l1), (2, .int l2)] [.int t0] := by
  unfold f_X12_nextStreet_31 at hf
  refine z_istore_n [(3, .int t0), (0, .ref l0), (1, .int l1), (2, .int l2)] dX12_nextStreet_31 rfl (by decide) rfl ?_
  refine z_iload_n 0 dX12_nextStreet_32 rfl rfl ?_
  refine z_iconst (-1) (-1) dX12_nextStreet_33 (by decide) ?_
  refine z_icmp_eq 91 hf dX12_nextStreet_34 (by decide) (fun hf => ?_) (fun hf => ?_)
  · refine z_lv [(0, .ref l0), (1, .int l1), (2, .int l2)] [1, 2, 3] rfl ?_
    exact zb_X12_nextStreet_91 hE hk2 hf
  · refine z_aload_n 1 dX12_nextStreet_37 rfl rfl ?_
    refine z_gP (ci := 12) (k := 14) (C := RX12) (T := TX12) (N := 32) rfl inlX12 (by decide) mw_7_4 (fun _ _ _ _ h9 => h9) hf (by decide) rfl dX12_nextStreet_38  (fun v6 hf => ?_)
    refine z_iload_n 3 dX12_nextStreet_41 rfl rfl ?_
    refine z_dup2_11 dX12_nextStreet_42 rfl rfl ?_
    refine z_aI hf dX12_nextStreet_43  (fun v7 hf => ?_)
    refine z_iconst 1 1 dX12_nextStreet_44 (by decide) ?_
    refine z_isub dX12_nextStreet_45 ?_
    refine z_sI hf dX12_nextStreet_46  (fun d8 hf => ?_)
    refine z_aload_n 1 dX12_nextStreet_47 rfl rfl ?_
    refine z_iload_n 0 dX12_nextStreet_48 rfl rfl ?_
    refine z_aload_n 1 dX12_nextStreet_49 rfl rfl ?_
    refine z_gP (ci := 12) (k := 14) (C := RX12) (T := TX12) (N := 32) rfl inlX12 (by decide) mw_7_4 (fun _ _ _ _ h9 => h9) hf (by decide) rfl dX12_nextStreet_50  (fun v9 hf => ?_)
    obtain ⟨v10, ev10, hf⟩ := ob hf
    refine z_cVv (ci := 12) (T := TX12) (N := 32) (As := [.int t0, .ref v9]) (rest := []) (zm_X12_follows ev10).2 (zm_X12_follows ev10).1 (by decide) rfl (Or.inl rfl) mw_49_17 mw_49_18 mw_49_19 mw_1_5 mw_49_20 yk_X12_follows (by decide) (by decide) rfl (Nat.le_of_ble_eq_true rfl) rfl dX12_nextStreet_53 ?_
    refine z_aload_n 1 dX12_nextStreet_56 rfl rfl ?_
    refine z_aload_n 1 dX12_nextStreet_57 rfl rfl ?_
    refine z_gP (ci := 12) (k := 14) (C := RX12) (T := TX12) (N := 32) rfl inlX12 (by decide) mw_7_4 (fun _ _ _ _ h9 => h9) hf (by decide) rfl dX12_nextStreet_58  (fun v11 hf => ?_)
    obtain ⟨v12, ev12, hf⟩ := ob hf
    refine z_cVi (ci := 12) (T := TX12) (N := 32) (As := [.ref v11]) (rest := []) (zm_X12_hasMore ev12).2 (zm_X12_hasMore ev12).1 (by decide) rfl (Or.inl rfl) mw_49_21 mw_49_22 mw_49_23 mw_1_5 mw_50_0 yk_X12_hasMore (by decide) (by decide) rfl (Nat.le_of_ble_eq_true rfl) rfl dX12_nextStreet_61 ?_
    refine z_if_ne 71 hf dX12_nextStreet_64 (by decide) (fun hf => ?_) (fun hf => ?_)
    · refine z_iconst 0 0 dX12_nextStreet_71 (by decide) ?_
      refine z_lv [(0, .ref l0), (1, .int l1), (2, .int l2)] [1, 2, 3] rfl ?_
      exact zb_X12_nextStreet_72 hE hk2 hf
    · refine z_iconst 1 1 dX12_nextStreet_67 (by decide) ?_
      refine z_goto 72 dX12_nextStreet_68 (by decide) ?_
      refine z_lv [(0, .ref l0), (1, .int l1), (2, .int l2)] [1, 2, 3] rfl ?_
      exact zb_X12_nextStreet_72 hE hk2 hf
set_option maxRecDepth 20000 in
theorem zg_X12_nextStreet_2 {N : Nat} {sh : Sh} {r : Int32 × Dt} {k2 : Nat → Int32 → Int32 → Dt → Option (Int32 × Dt)} {E : EV} (hE : TG E (some (.int r.1)) (sh, r.2))  (hk2 : ∀ (l0 : Nat) (l1 : Int32) (l2 : Int32) (d : Dt), k2 l0 l1 l2 d = some r → Z E yX12_nextStreet cX12_nextStreet 5 (some .int) 3 (sh, d) 2 [(0, .ref l0), (1, .int l1), (2, .int l2)] []) {l0 : Nat} {l1 : Int32} {l2 : Int32} {d : Dt} (hf : g_X12_nextStreet_2 N sh k2 l0 l1 l2 d = some r) : Z E yX12_nextStreet cX12_nextStreet 5 (some .int) 3 (sh, d) 2 [(0, .ref l0), (1, .int l1), (2, .int l2)] [] := by
  unfold g_X12_nextStreet_2 at hf
  refine z_iload_n 2 dX12_nextStreet_2 rfl rfl ?_
  refine z_aload_n 0 dX12_nextStreet_3 rfl rfl ?_
  refine z_gP (ci := 12) (k := 0) (C := RX12) (T := TX12) (N := 32) rfl inlX12 (by decide) mw_6_19 (fun _ _ _ _ h9 => h9) hf (by decide) rfl dX12_nextStreet_4  (fun v1 hf => ?_)
  refine z_iconst 1 1 dX12_nextStreet_7 (by decide) ?_
  refine z_aI hf dX12_nextStreet_8  (fun v2 hf => ?_)
  refine z_icmp_ge 97 hf dX12_nextStreet_9 (by decide) (fun hf => ?_) (fun hf => ?_)
  · refine z_lv [] [] rfl ?_
    exact zb_X12_nextStreet_97 hE hf
  · refine z_aload_n 0 dX12_nextStreet_12 rfl rfl ?_
    refine z_gP (ci := 12) (k := 14) (C := RX12) (T := TX12) (N := 32) rfl inlX12 (by decide) mw_7_4 (fun _ _ _ _ h9 => h9) hf (by decide) rfl dX12_nextStreet_13  (fun v3 hf => ?_)
    refine z_iload_n 2 dX12_nextStreet_16 rfl rfl ?_
    refine z_aI hf dX12_nextStreet_17  (fun v4 hf => ?_)
    refine z_if_le 30 hf dX12_nextStreet_18 (by decide) (fun hf => ?_) (fun hf => ?_)
    · refine z_iconst (-1) (-1) dX12_nextStreet_30 (by decide) ?_
      exact zb_X12_nextStreet_31 hE hk2 hf
    · refine z_aload_n 0 dX12_nextStreet_21 rfl rfl ?_
      refine z_iload_n 2 dX12_nextStreet_22 rfl rfl ?_
      refine z_iload_n 1 dX12_nextStreet_23 rfl rfl ?_
      obtain ⟨v5, ev5, hf⟩ := ob hf
      refine z_cVi (ci := 12) (T := TX12) (N := 32) (As := [.int l2, .int l1]) (rest := []) (zm_X12_leads ev5).2 (zm_X12_leads ev5).1 (by decide) rfl (Or.inl rfl) mw_19_13 mw_19_14 mw_19_15 mw_1_5 mw_19_16 yk_X12_leads (by decide) (by decide) rfl (Nat.le_of_ble_eq_true rfl) rfl dX12_nextStreet_24 ?_
      refine z_goto 31 dX12_nextStreet_27 (by decide) ?_
      exact zb_X12_nextStreet_31 hE hk2 hf
set_option maxRecDepth 20000 in
theorem zb_X12_nextStreet_2 {N : Nat} {sh : Sh} {r : Int32 × Dt} {E : EV} (hE : TG E (some (.int r.1)) (sh, r.2))  : ∀ (n : Nat) (l0 : Nat) (l1 : Int32) (l2 : Int32) (d : Dt), f_X12_nextStreet_2 N sh n l0 l1 l2 d = some r → Z E yX12_nextStreet cX12_nextStreet 5 (some .int) 3 (sh, d) 2 [(0, .ref l0), (1, .int l1), (2, .int l2)] [] := by
  intro n
  induction n with
  | zero => intro l0 l1 l2 d hf; cases hf
  | succ n ih => intro l0 l1 l2 d hf; exact zg_X12_nextStreet_2 hE ih hf
set_option maxRecDepth 20000 in
theorem zm_X12_nextStreet {N : Nat} {sh : Sh} {d : Dt} {l0 : Nat} {l1 : Int32} {r : Int32 × Dt} (hf : f_X12_nextStreet N sh l0 l1 d = some r) : isO sh l0 12 ∧ ∀ (l : Launch) (G : GG), Mt l G yX12_nextStreet cX12_nextStreet 5 (some .int) 3 [.ref l0, .int l1] (sh, d) (some (.int r.1)) (sh, r.2) := by
  have hf0 := hf
  unfold f_X12_nextStreet at hf
  refine ite_d hf (fun hO hf => ?_) (fun _ hf => ?_)
  · refine ⟨hO, fun l G => mt_of (Or.inl (by decide)) (Nat.le_of_ble_eq_true rfl) Le.rf (fun E hE => ?_)⟩
    show Z E yX12_nextStreet cX12_nextStreet 5 (some .int) 3 (sh, d) 0 [(0, .ref l0), (1, .int l1)] []
    refine z_iconst 0 0 dX12_nextStreet_0 (by decide) ?_
    refine z_istore_n [(2, .int (0 : Int32)), (0, .ref l0), (1, .int l1)] dX12_nextStreet_1 rfl (by decide) rfl ?_
    refine z_lv [(0, .ref l0), (1, .int l1), (2, .int (0 : Int32))] [1, 2, 0] rfl ?_
    exact zb_X12_nextStreet_2 hE N _ _ _ _ hf
  · cases hf
set_option maxRecDepth 20000 in
theorem zb_X12_drivesAll_81 {N : Nat} {sh : Sh} {r : Dt} {E : EV} (hE : TG E none (sh, r))   {d : Dt} (hf : f_X12_drivesAll_81 N sh  d = some r) : Z E yX12_drivesAll cX12_drivesAll 3 none 4 (sh, d) 81 [] [] := by
  unfold f_X12_drivesAll_81 at hf
  cases hf
  exact z_return hE rfl dX12_drivesAll_81
set_option maxRecDepth 20000 in
theorem zb_X12_drivesAll_42 {N : Nat} {sh : Sh} {k8 : Nat → Int32 → Int32 → Dt → Option Dt} {r : Dt} {E : EV} (hE : TG E none (sh, r)) (hk8 : ∀ (l0 : Nat) (l1 : Int32) (l2 : Int32) (d : Dt), k8 l0 l1 l2 d = some r → Z E yX12_drivesAll cX12_drivesAll 3 none 4 (sh, d) 8 [(0, .ref l0), (1, .int l1), (2, .int l2)] []) {l0 : Nat} {l1 : Int32} {l2 : Int32} {t0 : Nat} {t1 : Int32} {t2 : Int32} {t3 : Int32} {d : Dt} (hf : f_X12_drivesAll_42 N sh k8 l0 l1 l2 t0 t1 t2 t3 d = some r) : Z E yX12_drivesAll cX12_drivesAll 3 none 4 (sh, d) 42 [(0, .ref l0), (1, .int l1), (2, .int l2)] [.int t3, .int t2, .int t1, .ref t0] := by
  unfold f_X12_drivesAll_42 at hf
  obtain ⟨v7, ev7, hf⟩ := ob hf
  refine z_cVv (ci := 12) (T := TX12) (N := 32) (As := [.int t1, .int t2, .int t3]) (rest := []) (zm_X12_drive ev7).2 (zm_X12_drive ev7).1 (by decide) rfl (Or.inl rfl) mw_49_5 mw_49_6 mw_49_7 mw_1_5 mw_49_8 yk_X12_drive (by decide) (by decide) rfl (Nat.le_of_ble_eq_true rfl) rfl dX12_drivesAll_42 ?_
  refine z_aload_n 0 dX12_drivesAll_45 rfl rfl ?_
  refine z_gP (ci := 12) (k := 28) (C := RX12) (T := TX12) (N := 32) rfl inlX12 (by decide) mw_7_13 (fun _ _ _ _ h9 => h9) hf (by decide) rfl dX12_drivesAll_46  (fun v8 hf => ?_)
  refine z_iload_n 2 dX12_drivesAll_49 rfl rfl ?_
  refine z_dup2_11 dX12_drivesAll_50 rfl rfl ?_
  refine z_aI hf dX12_drivesAll_51  (fun v9 hf => ?_)
  refine z_iconst 1 1 dX12_drivesAll_52 (by decide) ?_
  refine z_iadd dX12_drivesAll_53 ?_
  refine z_sI hf dX12_drivesAll_54  (fun d10 hf => ?_)
  refine z_aload_n 0 dX12_drivesAll_55 rfl rfl ?_
  refine z_gP (ci := 12) (k := 14) (C := RX12) (T := TX12) (N := 32) rfl inlX12 (by decide) mw_7_4 (fun _ _ _ _ h9 => h9) hf (by decide) rfl dX12_drivesAll_56  (fun v11 hf => ?_)
  refine z_iload_n 2 dX12_drivesAll_59 rfl rfl ?_
  refine z_dup2_11 dX12_drivesAll_60 rfl rfl ?_
  refine z_aI hf dX12_drivesAll_61  (fun v12 hf => ?_)
  refine z_iconst 1 1 dX12_drivesAll_62 (by decide) ?_
  refine z_isub dX12_drivesAll_63 ?_
  refine z_sI hf dX12_drivesAll_64  (fun d13 hf => ?_)
  refine z_aload_n 0 dX12_drivesAll_65 rfl rfl ?_
  refine z_iload_n 2 dX12_drivesAll_66 rfl rfl ?_
  refine z_iload_n 1 dX12_drivesAll_67 rfl rfl ?_
  obtain ⟨v14, ev14, hf⟩ := ob hf
  refine z_cVi (ci := 12) (T := TX12) (N := 32) (As := [.int l2, .int l1]) (rest := []) (zm_X12_leads ev14).2 (zm_X12_leads ev14).1 (by decide) rfl (Or.inl rfl) mw_19_13 mw_19_14 mw_19_15 mw_1_5 mw_19_16 yk_X12_leads (by decide) (by decide) rfl (Nat.le_of_ble_eq_true rfl) rfl dX12_drivesAll_68 ?_
  refine z_istore_n [(1, .int v14), (0, .ref l0), (2, .int l2)] dX12_drivesAll_71 rfl (by decide) rfl ?_
  refine z_aload_n 1 dX12_drivesAll_72 rfl rfl ?_
  refine z_iload_n 0 dX12_drivesAll_73 rfl rfl ?_
  obtain ⟨v15, ev15, hf⟩ := ob hf
  refine z_cVi (ci := 12) (T := TX12) (N := 32) (As := [.int v14]) (rest := []) (zm_X12_nextStreet ev15).2 (zm_X12_nextStreet ev15).1 (by decide) rfl (Or.inl rfl) mw_51_5 mw_51_6 mw_51_7 mw_1_5 mw_51_8 yk_X12_nextStreet (by decide) (by decide) rfl (Nat.le_of_ble_eq_true rfl) rfl dX12_drivesAll_74 ?_
  refine z_istore_n [(2, .int v15.1), (1, .int v14), (0, .ref l0)] dX12_drivesAll_77 rfl (by decide) rfl ?_
  refine z_goto 8 dX12_drivesAll_78 (by decide) ?_
  refine z_lv [(0, .ref l0), (1, .int v14), (2, .int v15.1)] [2, 1, 0] rfl ?_
  exact hk8 _ _ _ _ hf
set_option maxRecDepth 20000 in
theorem zg_X12_drivesAll_8 {N : Nat} {sh : Sh} {r : Dt} {k8 : Nat → Int32 → Int32 → Dt → Option Dt} {E : EV} (hE : TG E none (sh, r))  (hk8 : ∀ (l0 : Nat) (l1 : Int32) (l2 : Int32) (d : Dt), k8 l0 l1 l2 d = some r → Z E yX12_drivesAll cX12_drivesAll 3 none 4 (sh, d) 8 [(0, .ref l0), (1, .int l1), (2, .int l2)] []) {l0 : Nat} {l1 : Int32} {l2 : Int32} {d : Dt} (hf : g_X12_drivesAll_8 N sh k8 l0 l1 l2 d = some r) : Z E yX12_drivesAll cX12_drivesAll 3 none 4 (sh, d) 8 [(0, .ref l0), (1, .int l1), (2, .int l2)] [] := by
  unfold g_X12_drivesAll_8 at hf
  refine z_iload_n 2 dX12_drivesAll_8 rfl rfl ?_
  refine z_iconst (-1) (-1) dX12_drivesAll_9 (by decide) ?_
  refine z_icmp_eq 81 hf dX12_drivesAll_10 (by decide) (fun hf => ?_) (fun hf => ?_)
  · refine z_lv [] [] rfl ?_
    exact zb_X12_drivesAll_81 hE hf
  · refine z_aload_n 0 dX12_drivesAll_13 rfl rfl ?_
    refine z_iload_n 2 dX12_drivesAll_14 rfl rfl ?_
    refine z_iload_n 1 dX12_drivesAll_15 rfl rfl ?_
    refine z_aload_n 0 dX12_drivesAll_16 rfl rfl ?_
    refine z_gP (ci := 12) (k := 28) (C := RX12) (T := TX12) (N := 32) rfl inlX12 (by decide) mw_7_13 (fun _ _ _ _ h9 => h9) hf (by decide) rfl dX12_drivesAll_17  (fun v2 hf => ?_)
    refine z_iload_n 2 dX12_drivesAll_20 rfl rfl ?_
    refine z_aI hf dX12_drivesAll_21  (fun v3 hf => ?_)
    refine z_aload_n 0 dX12_drivesAll_22 rfl rfl ?_
    refine z_gP (ci := 12) (k := 0) (C := RX12) (T := TX12) (N := 32) rfl inlX12 (by decide) mw_6_19 (fun _ _ _ _ h9 => h9) hf (by decide) rfl dX12_drivesAll_23  (fun v4 hf => ?_)
    refine z_aload_n 0 dX12_drivesAll_26 rfl rfl ?_
    refine z_iload_n 2 dX12_drivesAll_27 rfl rfl ?_
    obtain ⟨v5, ev5, hf⟩ := ob hf
    refine z_cVi (ci := 12) (T := TX12) (N := 32) (As := [.int l2]) (rest := [.ref v4, .int v3, .int l1, .int l2, .ref l0]) (zm_X12_st ev5).2 (zm_X12_st ev5).1 (by decide) rfl (Or.inl rfl) mw_13_10 mw_13_11 mw_13_12 mw_1_5 mw_13_13 yk_X12_st (by decide) (by decide) rfl (Nat.le_of_ble_eq_true rfl) rfl dX12_drivesAll_28 ?_
    refine z_iconst 3 3 dX12_drivesAll_31 (by decide) ?_
    refine z_iadd dX12_drivesAll_32 ?_
    refine z_aI hf dX12_drivesAll_33  (fun v6 hf => ?_)
    refine z_icmp_ge 41 hf dX12_drivesAll_34 (by decide) (fun hf => ?_) (fun hf => ?_)
    · refine z_iconst 0 0 dX12_drivesAll_41 (by decide) ?_
      exact zb_X12_drivesAll_42 hE hk8 hf
    · refine z_iconst 1 1 dX12_drivesAll_37 (by decide) ?_
      refine z_goto 42 dX12_drivesAll_38 (by decide) ?_
      exact zb_X12_drivesAll_42 hE hk8 hf
set_option maxRecDepth 20000 in
theorem zb_X12_drivesAll_8 {N : Nat} {sh : Sh} {r : Dt} {E : EV} (hE : TG E none (sh, r))  : ∀ (n : Nat) (l0 : Nat) (l1 : Int32) (l2 : Int32) (d : Dt), f_X12_drivesAll_8 N sh n l0 l1 l2 d = some r → Z E yX12_drivesAll cX12_drivesAll 3 none 4 (sh, d) 8 [(0, .ref l0), (1, .int l1), (2, .int l2)] [] := by
  intro n
  induction n with
  | zero => intro l0 l1 l2 d hf; cases hf
  | succ n ih => intro l0 l1 l2 d hf; exact zg_X12_drivesAll_8 hE ih hf
set_option maxRecDepth 20000 in
theorem zm_X12_drivesAll {N : Nat} {sh : Sh} {d : Dt} {l0 : Nat} {r : Dt} (hf : f_X12_drivesAll N sh l0 d = some r) : isO sh l0 12 ∧ ∀ (l : Launch) (G : GG), Mt l G yX12_drivesAll cX12_drivesAll 3 none 4 [.ref l0] (sh, d) none (sh, r) := by
  have hf0 := hf
  unfold f_X12_drivesAll at hf
  refine ite_d hf (fun hO hf => ?_) (fun _ hf => ?_)
  · refine ⟨hO, fun l G => mt_of (Or.inl (by decide)) (Nat.le_of_ble_eq_true rfl) Le.rf (fun E hE => ?_)⟩
    show Z E yX12_drivesAll cX12_drivesAll 3 none 4 (sh, d) 0 [(0, .ref l0)] []
    refine z_iconst 0 0 dX12_drivesAll_0 (by decide) ?_
    refine z_istore_n [(1, .int (0 : Int32)), (0, .ref l0)] dX12_drivesAll_1 rfl (by decide) rfl ?_
    refine z_aload_n 1 dX12_drivesAll_2 rfl rfl ?_
    refine z_iload_n 0 dX12_drivesAll_3 rfl rfl ?_
    obtain ⟨v1, ev1, hf⟩ := ob hf
    refine z_cVi (ci := 12) (T := TX12) (N := 32) (As := [.int (0 : Int32)]) (rest := []) (zm_X12_nextStreet ev1).2 (zm_X12_nextStreet ev1).1 (by decide) rfl (Or.inl rfl) mw_51_5 mw_51_6 mw_51_7 mw_1_5 mw_51_8 yk_X12_nextStreet (by decide) (by decide) rfl (Nat.le_of_ble_eq_true rfl) rfl dX12_drivesAll_4 ?_
    refine z_istore_n [(2, .int v1.1), (1, .int (0 : Int32)), (0, .ref l0)] dX12_drivesAll_7 rfl (by decide) rfl ?_
    refine z_lv [(0, .ref l0), (1, .int (0 : Int32)), (2, .int v1.1)] [2, 1, 0] rfl ?_
    exact zb_X12_drivesAll_8 hE N _ _ _ _ hf
  · cases hf
