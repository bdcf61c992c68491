theorem ite_d {α : Type} {c P : Prop} {q : Decidable c} {a b : Option α} {r : α} (h : @ite _ c q a b = some r) (h1 : c → a = some r → P) (h2 : ¬ c → b = some r → P) : P := by
  by_cases hc : c
  · rw [if_pos hc] at h
    exact h1 hc h
  · rw [if_neg hc] at h
    exact h2 hc h
theorem ite_c {α : Type} {c P : Prop} {q : Decidable c} {a b : Option α} {r : α} (h : @ite _ c q a b = some r) (h1 : a = some r → P) (h2 : b = some r → P) : P := by
  by_cases hc : c
  · rw [if_pos hc] at h
    exact h1 h
  · rw [if_neg hc] at h
    exact h2 h
theorem Le.via {s t u : AS} (k : Le t u) (h : s.1 = t.1) : Le s u := Le.of h k
set_option maxRecDepth 20000 in
theorem zm_X12_st {N : Nat} {sh : Sh} {d : Dt} {l0 : Nat} {l1 : Int32} {r : Int32} (hf : f_X12_st N sh l0 l1 d = some r) : isO sh l0 12 ∧ ∀ (l : Launch) (G : GG), Mt l G yX12_st cX12_st 2 (some .int) 1 [.ref l0, .int l1] (sh, d) (some (.int r)) (sh, d) := by
  have hf0 := hf
  unfold f_X12_st at hf
  refine ite_d hf (fun hO hf => ?_) (fun _ hf => ?_)
  · refine ⟨hO, fun l G => mt_of (Or.inl (by decide)) (Nat.le_of_ble_eq_true rfl) Le.rf (fun E hE => ?_)⟩
    show Z E yX12_st cX12_st 2 (some .int) 1 (sh, d) 0 [(0, .ref l0), (1, .int l1)] []
    refine z_bipush 16 16 dX12_st_0 (by decide) ?_
    refine z_bipush 9 9 dX12_st_2 (by decide) ?_
    refine z_iload_n 1 dX12_st_4 rfl rfl ?_
    refine z_imul dX12_st_5 ?_
    refine z_iadd dX12_st_6 ?_
    cases hf
    exact z_ireturn hE rfl dX12_st_7
  · cases hf
set_option maxRecDepth 20000 in
theorem zb_X12_isOpen_20 {N : Nat} {sh : Sh} {d : Dt} {r : Int32} {E : EV} (hE : TG E (some (.int r)) (sh, d))  {t0 : Int32} (hf : f_X12_isOpen_20 N sh t0 d = some r) : Z E yX12_isOpen cX12_isOpen 2 (some .boolean) 2 (sh, d) 20 [] [.int t0] := by
  unfold f_X12_isOpen_20 at hf
  obtain ⟨v4, ev4, hg⟩ := ob hf
  obtain ⟨rfl, hbv4⟩ := o_bool_spec ev4
  cases hg
  exact z_zreturn hE rfl hbv4 dX12_isOpen_20
set_option maxRecDepth 20000 in
theorem zm_X12_isOpen {N : Nat} {sh : Sh} {d : Dt} {l0 : Nat} {l1 : Int32} {r : Int32} (hf : f_X12_isOpen N sh l0 l1 d = some r) : isO sh l0 12 ∧ ∀ (l : Launch) (G : GG), Mt l G yX12_isOpen cX12_isOpen 2 (some .boolean) 2 [.ref l0, .int l1] (sh, d) (some (.int r)) (sh, d) := by
  have hf0 := hf
  unfold f_X12_isOpen at hf
  refine ite_d hf (fun hO hf => ?_) (fun _ hf => ?_)
  · refine ⟨hO, fun l G => mt_of (Or.inl (by decide)) (Nat.le_of_ble_eq_true rfl) Le.rf (fun E hE => ?_)⟩
    show Z E yX12_isOpen cX12_isOpen 2 (some .boolean) 2 (sh, d) 0 [(0, .ref l0), (1, .int l1)] []
    refine z_aload_n 0 dX12_isOpen_0 rfl rfl ?_
    refine z_gP (ci := 12) (k := 0) (C := RX12) (T := TX12) (N := 32) rfl inlX12 (by decide) mw_6_19 (fun _ _ _ _ h9 => h9) hf (by decide) rfl dX12_isOpen_1  (fun v1 hf => ?_)
    refine z_aload_n 0 dX12_isOpen_4 rfl rfl ?_
    refine z_iload_n 1 dX12_isOpen_5 rfl rfl ?_
    obtain ⟨v2, ev2, hf⟩ := ob hf
    refine z_cVi (ci := 12) (T := TX12) (N := 32) (As := [.int l1]) (rest := [.ref v1]) (zm_X12_st ev2).2 (zm_X12_st ev2).1 (by decide) rfl (Or.inl rfl) mw_13_10 mw_13_11 mw_13_12 mw_1_5 mw_13_13 yk_X12_st (by decide) (by decide) rfl (Nat.le_of_ble_eq_true rfl) rfl dX12_isOpen_6 ?_
    refine z_iconst 4 4 dX12_isOpen_9 (by decide) ?_
    refine z_iadd dX12_isOpen_10 ?_
    refine z_aI hf dX12_isOpen_11  (fun v3 hf => ?_)
    refine z_if_ne 19 hf dX12_isOpen_12 (by decide) (fun hf => ?_) (fun hf => ?_)
    · refine z_iconst 0 0 dX12_isOpen_19 (by decide) ?_
      refine z_lv [] [] rfl ?_
      exact zb_X12_isOpen_20 hE hf
    · refine z_iconst 1 1 dX12_isOpen_15 (by decide) ?_
      refine z_goto 20 dX12_isOpen_16 (by decide) ?_
      refine z_lv [] [] rfl ?_
      exact zb_X12_isOpen_20 hE hf
  · cases hf
set_option maxRecDepth 20000 in
theorem zb_X12_leads_68 {N : Nat} {sh : Sh} {d : Dt} {r : Int32} {E : EV} (hE : TG E (some (.int r)) (sh, d))  {t0 : Int32} (hf : f_X12_leads_68 N sh t0 d = some r) : Z E yX12_leads cX12_leads 4 (some .int) 2 (sh, d) 68 [] [.int t0] := by
  unfold f_X12_leads_68 at hf
  cases hf
  exact z_ireturn hE rfl dX12_leads_68
set_option maxRecDepth 20000 in
theorem zb_X12_leads_67 {N : Nat} {sh : Sh} {d : Dt} {r : Int32} {E : EV} (hE : TG E (some (.int r)) (sh, d))   (hf : f_X12_leads_67 N sh  d = some r) : Z E yX12_leads cX12_leads 4 (some .int) 2 (sh, d) 67 [] [] := by
  unfold f_X12_leads_67 at hf
  refine z_iconst (-1) (-1) dX12_leads_67 (by decide) ?_
  exact zb_X12_leads_68 hE hf
set_option maxRecDepth 20000 in
theorem zm_X12_leads {N : Nat} {sh : Sh} {d : Dt} {l0 : Nat} {l1 : Int32} {l2 : Int32} {r : Int32} (hf : f_X12_leads N sh l0 l1 l2 d = some r) : isO sh l0 12 ∧ ∀ (l : Launch) (G : GG), Mt l G yX12_leads cX12_leads 4 (some .int) 2 [.ref l0, .int l1, .int l2] (sh, d) (some (.int r)) (sh, d) := by
  have hf0 := hf
  unfold f_X12_leads at hf
  refine ite_d hf (fun hO hf => ?_) (fun _ hf => ?_)
  · refine ⟨hO, fun l G => mt_of (Or.inl (by decide)) (Nat.le_of_ble_eq_true rfl) Le.rf (fun E hE => ?_)⟩
    show Z E yX12_leads cX12_leads 4 (some .int) 2 (sh, d) 0 [(0, .ref l0), (1, .int l1), (2, .int l2)] []
    refine z_aload_n 0 dX12_leads_0 rfl rfl ?_
    refine z_iload_n 1 dX12_leads_1 rfl rfl ?_
    obtain ⟨v1, ev1, hf⟩ := ob hf
    refine z_cVi (ci := 12) (T := TX12) (N := 32) (As := [.int l1]) (rest := []) (zm_X12_st ev1).2 (zm_X12_st ev1).1 (by decide) rfl (Or.inl rfl) mw_13_10 mw_13_11 mw_13_12 mw_1_5 mw_13_13 yk_X12_st (by decide) (by decide) rfl (Nat.le_of_ble_eq_true rfl) rfl dX12_leads_2 ?_
    refine z_istore_n [(3, .int v1), (0, .ref l0), (1, .int l1), (2, .int l2)] dX12_leads_5 rfl (by decide) rfl ?_
    refine z_aload_n 1 dX12_leads_6 rfl rfl ?_
    refine z_gP (ci := 12) (k := 0) (C := RX12) (T := TX12) (N := 32) rfl inlX12 (by decide) mw_6_19 (fun _ _ _ _ h9 => h9) hf (by decide) rfl dX12_leads_7  (fun v2 hf => ?_)
    refine z_iload_n 0 dX12_leads_10 rfl rfl ?_
    refine z_bipush 7 7 dX12_leads_11 (by decide) ?_
    refine z_iadd dX12_leads_13 ?_
    refine z_aI hf dX12_leads_14  (fun v3 hf => ?_)
    refine z_iload_n 3 dX12_leads_15 rfl rfl ?_
    refine z_icmp_ne 31 hf dX12_leads_16 (by decide) (fun hf => ?_) (fun hf => ?_)
    · refine z_aload_n 1 dX12_leads_31 rfl rfl ?_
      refine z_gP (ci := 12) (k := 0) (C := RX12) (T := TX12) (N := 32) rfl inlX12 (by decide) mw_6_19 (fun _ _ _ _ h9 => h9) hf (by decide) rfl dX12_leads_32  (fun v4 hf => ?_)
      refine z_iload_n 0 dX12_leads_35 rfl rfl ?_
      refine z_bipush 8 8 dX12_leads_36 (by decide) ?_
      refine z_iadd dX12_leads_38 ?_
      refine z_aI hf dX12_leads_39  (fun v5 hf => ?_)
      refine z_iload_n 3 dX12_leads_40 rfl rfl ?_
      refine z_icmp_ne 67 hf dX12_leads_41 (by decide) (fun hf => ?_) (fun hf => ?_)
      · refine z_lv [] [] rfl ?_
        exact zb_X12_leads_67 hE hf
      · refine z_aload_n 1 dX12_leads_44 rfl rfl ?_
        refine z_gP (ci := 12) (k := 0) (C := RX12) (T := TX12) (N := 32) rfl inlX12 (by decide) mw_6_19 (fun _ _ _ _ h9 => h9) hf (by decide) rfl dX12_leads_45  (fun v6 hf => ?_)
        refine z_iload_n 0 dX12_leads_48 rfl rfl ?_
        refine z_iconst 5 5 dX12_leads_49 (by decide) ?_
        refine z_iadd dX12_leads_50 ?_
        refine z_aI hf dX12_leads_51  (fun v7 hf => ?_)
        refine z_if_ne 67 hf dX12_leads_52 (by decide) (fun hf => ?_) (fun hf => ?_)
        · refine z_lv [] [] rfl ?_
          exact zb_X12_leads_67 hE hf
        · refine z_aload_n 1 dX12_leads_55 rfl rfl ?_
          refine z_gP (ci := 12) (k := 0) (C := RX12) (T := TX12) (N := 32) rfl inlX12 (by decide) mw_6_19 (fun _ _ _ _ h9 => h9) hf (by decide) rfl dX12_leads_56  (fun v8 hf => ?_)
          refine z_iload_n 0 dX12_leads_59 rfl rfl ?_
          refine z_bipush 7 7 dX12_leads_60 (by decide) ?_
          refine z_iadd dX12_leads_62 ?_
          refine z_aI hf dX12_leads_63  (fun v9 hf => ?_)
          refine z_goto 68 dX12_leads_64 (by decide) ?_
          refine z_lv [] [] rfl ?_
          exact zb_X12_leads_68 hE hf
    · refine z_aload_n 1 dX12_leads_19 rfl rfl ?_
      refine z_gP (ci := 12) (k := 0) (C := RX12) (T := TX12) (N := 32) rfl inlX12 (by decide) mw_6_19 (fun _ _ _ _ h9 => h9) hf (by decide) rfl dX12_leads_20  (fun v10 hf => ?_)
      refine z_iload_n 0 dX12_leads_23 rfl rfl ?_
      refine z_bipush 8 8 dX12_leads_24 (by decide) ?_
      refine z_iadd dX12_leads_26 ?_
      refine z_aI hf dX12_leads_27  (fun v11 hf => ?_)
      refine z_goto 68 dX12_leads_28 (by decide) ?_
      refine z_lv [] [] rfl ?_
      exact zb_X12_leads_68 hE hf
  · cases hf
set_option maxRecDepth 20000 in
theorem zb_X12_onTo_109 {N : Nat} {sh : Sh} {d : Dt} {r : Int32} {E : EV} (hE : TG E (some (.int r)) (sh, d))  {l3 : Int32} (hf : f_X12_onTo_109 N sh l3 d = some r) : Z E yX12_onTo cX12_onTo 7 (some .int) 3 (sh, d) 109 [(3, .int l3)] [] := by
  unfold f_X12_onTo_109 at hf
  refine z_iload_n 0 dX12_onTo_109 rfl rfl ?_
  cases hf
  exact z_ireturn hE rfl dX12_onTo_110
set_option maxRecDepth 20000 in
theorem zb_X12_onTo_103 {N : Nat} {sh : Sh} {d : Dt} {k9 : Nat → Int32 → Int32 → Int32 → Int32 → Int32 → Option Int32} {r : Int32} {E : EV} (hE : TG E (some (.int r)) (sh, d)) (hk9 : ∀ (l0 : Nat) (l1 : Int32) (l2 : Int32) (l3 : Int32) (l4 : Int32) (l5 : Int32), k9 l0 l1 l2 l3 l4 l5 = some r → Z E yX12_onTo cX12_onTo 7 (some .int) 3 (sh, d) 9 [(0, .ref l0), (1, .int l1), (2, .int l2), (3, .int l3), (4, .int l4), (5, .int l5)] []) {l0 : Nat} {l1 : Int32} {l2 : Int32} {l3 : Int32} {l4 : Int32} {l5 : Int32} (hf : f_X12_onTo_103 N sh k9 l0 l1 l2 l3 l4 l5 d = some r) : Z E yX12_onTo cX12_onTo 7 (some .int) 3 (sh, d) 103 [(0, .ref l0), (1, .int l1), (2, .int l2), (3, .int l3), (4, .int l4), (5, .int l5)] [] := by
  unfold f_X12_onTo_103 at hf
  refine z_iinc [(5, .int (l5 + 1)), (0, .ref l0), (1, .int l1), (2, .int l2), (3, .int l3), (4, .int l4)] 5 (l5 + 1) dX12_onTo_103 rfl rfl (by decide) rfl ?_
  refine z_goto 9 dX12_onTo_106 (by decide) ?_
  refine z_lv [(0, .ref l0), (1, .int l1), (2, .int l2), (3, .int l3), (4, .int l4), (5, .int (l5 + 1))] [1, 2, 3, 4, 5, 0] rfl ?_
  exact hk9 _ _ _ _ _ _ hf
set_option maxRecDepth 20000 in
theorem zb_X12_onTo_40 {N : Nat} {sh : Sh} {d : Dt} {k9 : Nat → Int32 → Int32 → Int32 → Int32 → Int32 → Option Int32} {r : Int32} {E : EV} (hE : TG E (some (.int r)) (sh, d)) (hk9 : ∀ (l0 : Nat) (l1 : Int32) (l2 : Int32) (l3 : Int32) (l4 : Int32) (l5 : Int32), k9 l0 l1 l2 l3 l4 l5 = some r → Z E yX12_onTo cX12_onTo 7 (some .int) 3 (sh, d) 9 [(0, .ref l0), (1, .int l1), (2, .int l2), (3, .int l3), (4, .int l4), (5, .int l5)] []) {l0 : Nat} {l1 : Int32} {l2 : Int32} {l3 : Int32} {l4 : Int32} {l5 : Int32} {t0 : Int32} (hf : f_X12_onTo_40 N sh k9 l0 l1 l2 l3 l4 l5 t0 d = some r) : Z E yX12_onTo cX12_onTo 7 (some .int) 3 (sh, d) 40 [(0, .ref l0), (1, .int l1), (2, .int l2), (3, .int l3), (4, .int l4), (5, .int l5)] [.int t0] := by
  unfold f_X12_onTo_40 at hf
  refine z_istore [(6, .int t0), (0, .ref l0), (1, .int l1), (2, .int l2), (3, .int l3), (4, .int l4), (5, .int l5)] dX12_onTo_40 (by decide) rfl ?_
  refine z_iload 0 dX12_onTo_42 rfl ?_
  refine z_iconst (-1) (-1) dX12_onTo_44 (by decide) ?_
  refine z_icmp_eq 103 hf dX12_onTo_45 (by decide) (fun hf => ?_) (fun hf => ?_)
  · refine z_lv [(0, .ref l0), (1, .int l1), (2, .int l2), (3, .int l3), (4, .int l4), (5, .int l5)] [1, 2, 3, 4, 5, 6] rfl ?_
    exact zb_X12_onTo_103 hE hk9 hf
  · refine z_iload 0 dX12_onTo_48 rfl ?_
    refine z_iload 5 dX12_onTo_50 rfl ?_
    refine z_icmp_ge 103 hf dX12_onTo_52 (by decide) (fun hf => ?_) (fun hf => ?_)
    · refine z_lv [(0, .ref l0), (1, .int l1), (2, .int l2), (3, .int l3), (4, .int l4), (5, .int l5)] [1, 2, 3, 4, 5, 6] rfl ?_
      exact zb_X12_onTo_103 hE hk9 hf
    · refine z_aload_n 1 dX12_onTo_55 rfl rfl ?_
      refine z_gP (ci := 12) (k := 0) (C := RX12) (T := TX12) (N := 32) rfl inlX12 (by decide) mw_6_19 (fun _ _ _ _ h9 => h9) hf (by decide) rfl dX12_onTo_56  (fun v5 hf => ?_)
      refine z_aload_n 1 dX12_onTo_59 rfl rfl ?_
      refine z_iload 6 dX12_onTo_60 rfl ?_
      obtain ⟨v6, ev6, hf⟩ := ob hf
      refine z_cVi (ci := 12) (T := TX12) (N := 32) (As := [.int l5]) (rest := [.ref v5]) (zm_X12_st ev6).2 (zm_X12_st ev6).1 (by decide) rfl (Or.inl rfl) mw_13_10 mw_13_11 mw_13_12 mw_1_5 mw_13_13 yk_X12_st (by decide) (by decide) rfl (Nat.le_of_ble_eq_true rfl) rfl dX12_onTo_62 ?_
      refine z_bipush 6 6 dX12_onTo_65 (by decide) ?_
      refine z_iadd dX12_onTo_67 ?_
      refine z_aI hf dX12_onTo_68  (fun v7 hf => ?_)
      refine z_aload_n 1 dX12_onTo_69 rfl rfl ?_
      refine z_gP (ci := 12) (k := 9) (C := RX12) (T := TX12) (N := 32) rfl inlX12 (by decide) mw_6_23 (fun _ _ _ _ h9 => h9) hf (by decide) rfl dX12_onTo_70  (fun v8 hf => ?_)
      refine z_bipush 60 60 dX12_onTo_73 (by decide) ?_
      refine z_iload 0 dX12_onTo_75 rfl ?_
      refine z_imul dX12_onTo_77 ?_
      refine z_iload_n 3 dX12_onTo_78 rfl rfl ?_
      refine z_iadd dX12_onTo_79 ?_
      refine z_aI hf dX12_onTo_80  (fun v9 hf => ?_)
      refine z_iadd dX12_onTo_81 ?_
      refine z_aload_n 1 dX12_onTo_82 rfl rfl ?_
      refine z_gP (ci := 12) (k := 9) (C := RX12) (T := TX12) (N := 32) rfl inlX12 (by decide) mw_6_23 (fun _ _ _ _ h9 => h9) hf (by decide) rfl dX12_onTo_83  (fun v10 hf => ?_)
      refine z_bipush 60 60 dX12_onTo_86 (by decide) ?_
      refine z_iload_n 2 dX12_onTo_88 rfl rfl ?_
      refine z_imul dX12_onTo_89 ?_
      refine z_iload_n 3 dX12_onTo_90 rfl rfl ?_
      refine z_iadd dX12_onTo_91 ?_
      refine z_aI hf dX12_onTo_92  (fun v11 hf => ?_)
      refine z_icmp_ne 103 hf dX12_onTo_93 (by decide) (fun hf => ?_) (fun hf => ?_)
      · refine z_lv [(0, .ref l0), (1, .int l1), (2, .int l2), (3, .int l3), (4, .int l4), (5, .int l5)] [1, 2, 3, 4, 5, 6] rfl ?_
        exact zb_X12_onTo_103 hE hk9 hf
      · refine z_iload 6 dX12_onTo_96 rfl ?_
        refine z_istore_n [(3, .int l5), (6, .int t0), (0, .ref l0), (1, .int l1), (2, .int l2), (4, .int l4), (5, .int l5)] dX12_onTo_98 rfl (by decide) rfl ?_
        refine z_iload 1 dX12_onTo_99 rfl ?_
        refine z_istore [(4, .int t0), (3, .int l5), (6, .int t0), (0, .ref l0), (1, .int l1), (2, .int l2), (5, .int l5)] dX12_onTo_101 (by decide) rfl ?_
        refine z_lv [(0, .ref l0), (1, .int l1), (2, .int l2), (3, .int l5), (4, .int t0), (5, .int l5)] [3, 4, 5, 1, 0, 6] rfl ?_
        exact zb_X12_onTo_103 hE hk9 hf
set_option maxRecDepth 20000 in
theorem zg_X12_onTo_9 {N : Nat} {sh : Sh} {d : Dt} {r : Int32} {k9 : Nat → Int32 → Int32 → Int32 → Int32 → Int32 → Option Int32} {E : EV} (hE : TG E (some (.int r)) (sh, d))  (hk9 : ∀ (l0 : Nat) (l1 : Int32) (l2 : Int32) (l3 : Int32) (l4 : Int32) (l5 : Int32), k9 l0 l1 l2 l3 l4 l5 = some r → Z E yX12_onTo cX12_onTo 7 (some .int) 3 (sh, d) 9 [(0, .ref l0), (1, .int l1), (2, .int l2), (3, .int l3), (4, .int l4), (5, .int l5)] []) {l0 : Nat} {l1 : Int32} {l2 : Int32} {l3 : Int32} {l4 : Int32} {l5 : Int32} (hf : g_X12_onTo_9 N sh k9 l0 l1 l2 l3 l4 l5 d = some r) : Z E yX12_onTo cX12_onTo 7 (some .int) 3 (sh, d) 9 [(0, .ref l0), (1, .int l1), (2, .int l2), (3, .int l3), (4, .int l4), (5, .int l5)] [] := by
  unfold g_X12_onTo_9 at hf
  refine z_iload 5 dX12_onTo_9 rfl ?_
  refine z_aload_n 0 dX12_onTo_11 rfl rfl ?_
  refine z_gP (ci := 12) (k := 0) (C := RX12) (T := TX12) (N := 32) rfl inlX12 (by decide) mw_6_19 (fun _ _ _ _ h9 => h9) hf (by decide) rfl dX12_onTo_12  (fun v1 hf => ?_)
  refine z_iconst 1 1 dX12_onTo_15 (by decide) ?_
  refine z_aI hf dX12_onTo_16  (fun v2 hf => ?_)
  refine z_icmp_ge 109 hf dX12_onTo_17 (by decide) (fun hf => ?_) (fun hf => ?_)
  · refine z_lv [(3, .int l3)] [3] rfl ?_
    exact zb_X12_onTo_109 hE hf
  · refine z_aload_n 0 dX12_onTo_20 rfl rfl ?_
    refine z_iload 5 dX12_onTo_21 rfl ?_
    obtain ⟨v3, ev3, hf⟩ := ob hf
    refine z_cVi (ci := 12) (T := TX12) (N := 32) (As := [.int l5]) (rest := []) (zm_X12_isOpen ev3).2 (zm_X12_isOpen ev3).1 (by decide) rfl (Or.inl rfl) mw_18_4 mw_18_5 mw_18_6 mw_1_5 mw_18_7 yk_X12_isOpen (by decide) (by decide) rfl (Nat.le_of_ble_eq_true rfl) rfl dX12_onTo_23 ?_
    refine z_if_eq 39 hf dX12_onTo_26 (by decide) (fun hf => ?_) (fun hf => ?_)
    · refine z_iconst (-1) (-1) dX12_onTo_39 (by decide) ?_
      exact zb_X12_onTo_40 hE hk9 hf
    · refine z_aload_n 0 dX12_onTo_29 rfl rfl ?_
      refine z_iload 5 dX12_onTo_30 rfl ?_
      refine z_iload_n 1 dX12_onTo_32 rfl rfl ?_
      obtain ⟨v4, ev4, hf⟩ := ob hf
      refine z_cVi (ci := 12) (T := TX12) (N := 32) (As := [.int l5, .int l1]) (rest := []) (zm_X12_leads ev4).2 (zm_X12_leads ev4).1 (by decide) rfl (Or.inl rfl) mw_19_13 mw_19_14 mw_19_15 mw_1_5 mw_19_16 yk_X12_leads (by decide) (by decide) rfl (Nat.le_of_ble_eq_true rfl) rfl dX12_onTo_33 ?_
      refine z_goto 40 dX12_onTo_36 (by decide) ?_
      exact zb_X12_onTo_40 hE hk9 hf
set_option maxRecDepth 20000 in
theorem zb_X12_onTo_9 {N : Nat} {sh : Sh} {d : Dt} {r : Int32} {E : EV} (hE : TG E (some (.int r)) (sh, d))  : ∀ (n : Nat) (l0 : Nat) (l1 : Int32) (l2 : Int32) (l3 : Int32) (l4 : Int32) (l5 : Int32), f_X12_onTo_9 N sh d n l0 l1 l2 l3 l4 l5 = some r → Z E yX12_onTo cX12_onTo 7 (some .int) 3 (sh, d) 9 [(0, .ref l0), (1, .int l1), (2, .int l2), (3, .int l3), (4, .int l4), (5, .int l5)] [] := by
  intro n
  induction n with
  | zero => intro l0 l1 l2 l3 l4 l5 hf; cases hf
  | succ n ih => intro l0 l1 l2 l3 l4 l5 hf; exact zg_X12_onTo_9 hE ih hf
set_option maxRecDepth 20000 in
theorem zm_X12_onTo {N : Nat} {sh : Sh} {d : Dt} {l0 : Nat} {l1 : Int32} {l2 : Int32} {r : Int32} (hf : f_X12_onTo N sh l0 l1 l2 d = some r) : isO sh l0 12 ∧ ∀ (l : Launch) (G : GG), Mt l G yX12_onTo cX12_onTo 7 (some .int) 3 [.ref l0, .int l1, .int l2] (sh, d) (some (.int r)) (sh, d) := by
  have hf0 := hf
  unfold f_X12_onTo at hf
  refine ite_d hf (fun hO hf => ?_) (fun _ hf => ?_)
  · refine ⟨hO, fun l G => mt_of (Or.inl (by decide)) (Nat.le_of_ble_eq_true rfl) Le.rf (fun E hE => ?_)⟩
    show Z E yX12_onTo cX12_onTo 7 (some .int) 3 (sh, d) 0 [(0, .ref l0), (1, .int l1), (2, .int l2)] []
    refine z_iconst (-1) (-1) dX12_onTo_0 (by decide) ?_
    refine z_istore_n [(3, .int (-1 : Int32)), (0, .ref l0), (1, .int l1), (2, .int l2)] dX12_onTo_1 rfl (by decide) rfl ?_
    refine z_bipush 60 60 dX12_onTo_2 (by decide) ?_
    refine z_istore [(4, .int (60 : Int32)), (3, .int (-1 : Int32)), (0, .ref l0), (1, .int l1), (2, .int l2)] dX12_onTo_4 (by decide) rfl ?_
    refine z_iconst 0 0 dX12_onTo_6 (by decide) ?_
    refine z_istore [(5, .int (0 : Int32)), (4, .int (60 : Int32)), (3, .int (-1 : Int32)), (0, .ref l0), (1, .int l1), (2, .int l2)] dX12_onTo_7 (by decide) rfl ?_
    refine z_lv [(0, .ref l0), (1, .int l1), (2, .int l2), (3, .int (-1 : Int32)), (4, .int (60 : Int32)), (5, .int (0 : Int32))] [3, 4, 5, 2, 1, 0] rfl ?_
    exact zb_X12_onTo_9 hE N _ _ _ _ _ _ hf
  · cases hf
set_option maxRecDepth 20000 in
theorem zb_X12_adds_42 {N : Nat} {sh : Sh} {r : Dt} {E : EV} (hE : TG E none (sh, r))   {d : Dt} (hf : f_X12_adds_42 N sh  d = some r) : Z E yX12_adds cX12_adds 6 none 4 (sh, d) 42 [] [] := by
  unfold f_X12_adds_42 at hf
  cases hf
  exact z_return hE rfl dX12_adds_42
set_option maxRecDepth 20000 in
theorem zg_X12_adds_3 {N : Nat} {sh : Sh} {r : Dt} {k3 : Nat → Int32 → Int32 → Int32 → Dt → Option Dt} {E : EV} (hE : TG E none (sh, r))  (hk3 : ∀ (l0 : Nat) (l2 : Int32) (l3 : Int32) (l4 : Int32) (d : Dt), k3 l0 l2 l3 l4 d = some r → Z E yX12_adds cX12_adds 6 none 4 (sh, d) 3 [(0, .ref l0), (2, .int l2), (3, .int l3), (4, .int l4)] []) {l0 : Nat} {l2 : Int32} {l3 : Int32} {l4 : Int32} {d : Dt} (hf : g_X12_adds_3 N sh k3 l0 l2 l3 l4 d = some r) : Z E yX12_adds cX12_adds 6 none 4 (sh, d) 3 [(0, .ref l0), (2, .int l2), (3, .int l3), (4, .int l4)] [] := by
  unfold g_X12_adds_3 at hf
  refine z_iload 3 dX12_adds_3 rfl ?_
  refine z_iload_n 1 dX12_adds_5 rfl rfl ?_
  refine z_icmp_eq 42 hf dX12_adds_6 (by decide) (fun hf => ?_) (fun hf => ?_)
  · refine z_lv [] [] rfl ?_
    exact zb_X12_adds_42 hE hf
  · refine z_aload_n 0 dX12_adds_9 rfl rfl ?_
    refine z_iload 3 dX12_adds_10 rfl ?_
    refine z_iload_n 1 dX12_adds_12 rfl rfl ?_
    obtain ⟨v1, ev1, hf⟩ := ob hf
    refine z_cVi (ci := 12) (T := TX12) (N := 32) (As := [.int l4, .int l2]) (rest := []) (zm_X12_onTo ev1).2 (zm_X12_onTo ev1).1 (by decide) rfl (Or.inl rfl) mw_19_9 mw_19_10 mw_19_11 mw_1_5 mw_19_12 yk_X12_onTo (by decide) (by decide) rfl (Nat.le_of_ble_eq_true rfl) rfl dX12_adds_13 ?_
    refine z_istore [(5, .int v1), (0, .ref l0), (2, .int l2), (3, .int l3), (4, .int l4)] dX12_adds_16 (by decide) rfl ?_
    refine z_aload_n 1 dX12_adds_18 rfl rfl ?_
    refine z_gP (ci := 12) (k := 14) (C := RX12) (T := TX12) (N := 32) rfl inlX12 (by decide) mw_7_4 (fun _ _ _ _ h9 => h9) hf (by decide) rfl dX12_adds_19  (fun v2 hf => ?_)
    refine z_iload 0 dX12_adds_22 rfl ?_
    refine z_dup2_11 dX12_adds_24 rfl rfl ?_
    refine z_aI hf dX12_adds_25  (fun v3 hf => ?_)
    refine z_iload_n 3 dX12_adds_26 rfl rfl ?_
    refine z_iadd dX12_adds_27 ?_
    refine z_sI hf dX12_adds_28  (fun d4 hf => ?_)
    refine z_aload_n 1 dX12_adds_29 rfl rfl ?_
    refine z_iload 0 dX12_adds_30 rfl ?_
    refine z_iload 4 dX12_adds_32 rfl ?_
    obtain ⟨v5, ev5, hf⟩ := ob hf
    refine z_cVi (ci := 12) (T := TX12) (N := 32) (As := [.int v1, .int l4]) (rest := []) (zm_X12_leads ev5).2 (zm_X12_leads ev5).1 (by decide) rfl (Or.inl rfl) mw_19_13 mw_19_14 mw_19_15 mw_1_5 mw_19_16 yk_X12_leads (by decide) (by decide) rfl (Nat.le_of_ble_eq_true rfl) rfl dX12_adds_34 ?_
    refine z_istore [(4, .int v5), (5, .int v1), (0, .ref l0), (2, .int l2), (3, .int l3)] dX12_adds_37 (by decide) rfl ?_
    refine z_goto 3 dX12_adds_39 (by decide) ?_
    refine z_lv [(0, .ref l0), (2, .int l2), (3, .int l3), (4, .int v5)] [2, 3, 4, 0] rfl ?_
    exact hk3 _ _ _ _ _ hf
set_option maxRecDepth 20000 in
theorem zb_X12_adds_3 {N : Nat} {sh : Sh} {r : Dt} {E : EV} (hE : TG E none (sh, r))  : ∀ (n : Nat) (l0 : Nat) (l2 : Int32) (l3 : Int32) (l4 : Int32) (d : Dt), f_X12_adds_3 N sh n l0 l2 l3 l4 d = some r → Z E yX12_adds cX12_adds 6 none 4 (sh, d) 3 [(0, .ref l0), (2, .int l2), (3, .int l3), (4, .int l4)] [] := by
  intro n
  induction n with
  | zero => intro l0 l2 l3 l4 d hf; cases hf
  | succ n ih => intro l0 l2 l3 l4 d hf; exact zg_X12_adds_3 hE ih hf
set_option maxRecDepth 20000 in
theorem zm_X12_adds {N : Nat} {sh : Sh} {d : Dt} {l0 : Nat} {l1 : Int32} {l2 : Int32} {l3 : Int32} {r : Dt} (hf : f_X12_adds N sh l0 l1 l2 l3 d = some r) : isO sh l0 12 ∧ ∀ (l : Launch) (G : GG), Mt l G yX12_adds cX12_adds 6 none 4 [.ref l0, .int l1, .int l2, .int l3] (sh, d) none (sh, r) := by
  have hf0 := hf
  unfold f_X12_adds at hf
  refine ite_d hf (fun hO hf => ?_) (fun _ hf => ?_)
  · refine ⟨hO, fun l G => mt_of (Or.inl (by decide)) (Nat.le_of_ble_eq_true rfl) Le.rf (fun E hE => ?_)⟩
    show Z E yX12_adds cX12_adds 6 none 4 (sh, d) 0 [(0, .ref l0), (1, .int l1), (2, .int l2), (3, .int l3)] []
    refine z_iload_n 1 dX12_adds_0 rfl rfl ?_
    refine z_istore [(4, .int l1), (0, .ref l0), (1, .int l1), (2, .int l2), (3, .int l3)] dX12_adds_1 (by decide) rfl ?_
    refine z_lv [(0, .ref l0), (2, .int l2), (3, .int l3), (4, .int l1)] [1, 3, 4, 0] rfl ?_
    exact zb_X12_adds_3 hE N _ _ _ _ _ hf
  · cases hf
set_option maxRecDepth 20000 in
theorem zm_X12_ga {N : Nat} {sh : Sh} {d : Dt} {l0 : Nat} {l1 : Int32} {r : Int32} (hf : f_X12_ga N sh l0 l1 d = some r) : isO sh l0 12 ∧ ∀ (l : Launch) (G : GG), Mt l G yX12_ga cX12_ga 2 (some .int) 1 [.ref l0, .int l1] (sh, d) (some (.int r)) (sh, d) := by
  have hf0 := hf
  unfold f_X12_ga at hf
  refine ite_d hf (fun hO hf => ?_) (fun _ hf => ?_)
  · refine ⟨hO, fun l G => mt_of (Or.inl (by decide)) (Nat.le_of_ble_eq_true rfl) Le.rf (fun E hE => ?_)⟩
    show Z E yX12_ga cX12_ga 2 (some .int) 1 (sh, d) 0 [(0, .ref l0), (1, .int l1)] []
    refine z_sipush 1366 1366 dX12_ga_0 (by decide) ?_
    refine z_iconst 3 3 dX12_ga_3 (by decide) ?_
    refine z_iload_n 1 dX12_ga_4 rfl rfl ?_
    refine z_imul dX12_ga_5 ?_
    refine z_iadd dX12_ga_6 ?_
    cases hf
    exact z_ireturn hE rfl dX12_ga_7
  · cases hf
set_option maxRecDepth 20000 in
theorem zb_X12_against_38 {N : Nat} {sh : Sh} {d : Dt} {r : Int32} {E : EV} (hE : TG E (some (.int r)) (sh, d))   (hf : f_X12_against_38 N sh  d = some r) : Z E yX12_against cX12_against 8 (some .int) 2 (sh, d) 38 [] [] := by
  unfold f_X12_against_38 at hf
  refine z_bipush (-4) (-4) dX12_against_38 (by decide) ?_
  cases hf
  exact z_ireturn hE rfl dX12_against_40
set_option maxRecDepth 20000 in
theorem zb_X12_against_88 {N : Nat} {sh : Sh} {d : Dt} {r : Int32} {E : EV} (hE : TG E (some (.int r)) (sh, d))  {t0 : Int32} (hf : f_X12_against_88 N sh t0 d = some r) : Z E yX12_against cX12_against 8 (some .int) 2 (sh, d) 88 [] [.int t0] := by
  unfold f_X12_against_88 at hf
  cases hf
  exact z_ireturn hE rfl dX12_against_88
set_option maxRecDepth 20000 in
theorem zb_X12_against_82 {N : Nat} {sh : Sh} {d : Dt} {r : Int32} {E : EV} (hE : TG E (some (.int r)) (sh, d))   (hf : f_X12_against_82 N sh  d = some r) : Z E yX12_against cX12_against 8 (some .int) 2 (sh, d) 82 [] [] := by
  unfold f_X12_against_82 at hf
  refine z_bipush (-5) (-5) dX12_against_82 (by decide) ?_
  refine z_goto 88 dX12_against_84 (by decide) ?_
  exact zb_X12_against_88 hE hf
set_option maxRecDepth 20000 in
theorem zm_X12_against {N : Nat} {sh : Sh} {d : Dt} {l0 : Nat} {l1 : Int32} {l2 : Int32} {l3 : Int32} {l4 : Int32} {l5 : Int32} {r : Int32} (hf : f_X12_against N sh l0 l1 l2 l3 l4 l5 d = some r) : isO sh l0 12 ∧ ∀ (l : Launch) (G : GG), Mt l G yX12_against cX12_against 8 (some .int) 2 [.ref l0, .int l1, .int l2, .int l3, .int l4, .int l5] (sh, d) (some (.int r)) (sh, d) := by
  have hf0 := hf
  unfold f_X12_against at hf
  refine ite_d hf (fun hO hf => ?_) (fun _ hf => ?_)
  · refine ⟨hO, fun l G => mt_of (Or.inl (by decide)) (Nat.le_of_ble_eq_true rfl) Le.rf (fun E hE => ?_)⟩
    show Z E yX12_against cX12_against 8 (some .int) 2 (sh, d) 0 [(0, .ref l0), (1, .int l1), (2, .int l2), (3, .int l3), (4, .int l4), (5, .int l5)] []
    refine z_aload_n 0 dX12_against_0 rfl rfl ?_
    refine z_gP (ci := 12) (k := 0) (C := RX12) (T := TX12) (N := 32) rfl inlX12 (by decide) mw_6_19 (fun _ _ _ _ h9 => h9) hf (by decide) rfl dX12_against_1  (fun v1 hf => ?_)
    refine z_aload_n 0 dX12_against_4 rfl rfl ?_
    refine z_iload_n 1 dX12_against_5 rfl rfl ?_
    obtain ⟨v2, ev2, hf⟩ := ob hf
    refine z_cVi (ci := 12) (T := TX12) (N := 32) (As := [.int l1]) (rest := [.ref v1]) (zm_X12_ga ev2).2 (zm_X12_ga ev2).1 (by decide) rfl (Or.inl rfl) mw_20_8 mw_20_9 mw_20_10 mw_1_5 mw_20_11 yk_X12_ga (by decide) (by decide) rfl (Nat.le_of_ble_eq_true rfl) rfl dX12_against_6 ?_
    refine z_iconst 2 2 dX12_against_9 (by decide) ?_
    refine z_iadd dX12_against_10 ?_
    refine z_aI hf dX12_against_11  (fun v3 hf => ?_)
    refine z_istore [(6, .int v3), (0, .ref l0), (1, .int l1), (2, .int l2), (3, .int l3), (4, .int l4), (5, .int l5)] dX12_against_12 (by decide) rfl ?_
    refine z_aload_n 1 dX12_against_14 rfl rfl ?_
    refine z_gP (ci := 12) (k := 0) (C := RX12) (T := TX12) (N := 32) rfl inlX12 (by decide) mw_6_19 (fun _ _ _ _ h9 => h9) hf (by decide) rfl dX12_against_15  (fun v4 hf => ?_)
    refine z_aload_n 1 dX12_against_18 rfl rfl ?_
    refine z_iload_n 4 dX12_against_19 rfl rfl ?_
    obtain ⟨v5, ev5, hf⟩ := ob hf
    refine z_cVi (ci := 12) (T := TX12) (N := 32) (As := [.int l3]) (rest := [.ref v4]) (zm_X12_ga ev5).2 (zm_X12_ga ev5).1 (by decide) rfl (Or.inl rfl) mw_20_8 mw_20_9 mw_20_10 mw_1_5 mw_20_11 yk_X12_ga (by decide) (by decide) rfl (Nat.le_of_ble_eq_true rfl) rfl dX12_against_20 ?_
    refine z_iconst 2 2 dX12_against_23 (by decide) ?_
    refine z_iadd dX12_against_24 ?_
    refine z_aI hf dX12_against_25  (fun v6 hf => ?_)
    refine z_istore [(7, .int v6), (6, .int v3), (0, .ref l0), (1, .int l1), (2, .int l2), (3, .int l3), (4, .int l4), (5, .int l5)] dX12_against_26 (by decide) rfl ?_
    refine z_iload 1 dX12_against_28 rfl ?_
    refine z_if_lt 38 hf dX12_against_30 (by decide) (fun hf => ?_) (fun hf => ?_)
    · refine z_lv [] [] rfl ?_
      exact zb_X12_against_38 hE hf
    · refine z_iload 0 dX12_against_33 rfl ?_
      refine z_if_ge 41 hf dX12_against_35 (by decide) (fun hf => ?_) (fun hf => ?_)
      · refine z_iload_n 4 dX12_against_41 rfl rfl ?_
        refine z_if_lt 82 hf dX12_against_42 (by decide) (fun hf => ?_) (fun hf => ?_)
        · refine z_lv [] [] rfl ?_
          exact zb_X12_against_82 hE hf
        · refine z_iload 6 dX12_against_45 rfl ?_
          refine z_if_lt 82 hf dX12_against_47 (by decide) (fun hf => ?_) (fun hf => ?_)
          · refine z_lv [] [] rfl ?_
            exact zb_X12_against_82 hE hf
          · refine z_iload 7 dX12_against_50 rfl ?_
            refine z_if_lt 82 hf dX12_against_52 (by decide) (fun hf => ?_) (fun hf => ?_)
            · refine z_lv [] [] rfl ?_
              exact zb_X12_against_82 hE hf
            · refine z_iload_n 4 dX12_against_55 rfl rfl ?_
              refine z_i2l dX12_against_56 ?_
              refine z_iload 7 dX12_against_57 rfl ?_
              refine z_i2l dX12_against_59 ?_
              refine z_ladd dX12_against_60 ?_
              refine z_iload 1 dX12_against_61 rfl ?_
              refine z_i2l dX12_against_63 ?_
              refine z_lcmp dX12_against_64 ?_
              refine z_if_gt 82 hf dX12_against_65 (by decide) (fun hf => ?_) (fun hf => ?_)
              · refine z_lv [] [] rfl ?_
                exact zb_X12_against_82 hE hf
              · refine z_iload 6 dX12_against_68 rfl ?_
                refine z_i2l dX12_against_70 ?_
                refine z_iload 7 dX12_against_71 rfl ?_
                refine z_i2l dX12_against_73 ?_
                refine z_ladd dX12_against_74 ?_
                refine z_iload 0 dX12_against_75 rfl ?_
                refine z_i2l dX12_against_77 ?_
                refine z_lcmp dX12_against_78 ?_
                refine z_if_le 87 hf dX12_against_79 (by decide) (fun hf => ?_) (fun hf => ?_)
                · refine z_iconst 0 0 dX12_against_87 (by decide) ?_
                  refine z_lv [] [] rfl ?_
                  exact zb_X12_against_88 hE hf
                · refine z_lv [] [] rfl ?_
                  exact zb_X12_against_82 hE hf
      · refine z_lv [] [] rfl ?_
        exact zb_X12_against_38 hE hf
  · cases hf
set_option maxRecDepth 20000 in
theorem zb_X12_in_15 {N : Nat} {sh : Sh} {d : Dt} {r : Int32} {E : EV} (hE : TG E (some (.int r)) (sh, d))  {t0 : Int32} (hf : f_X12_in_15 N sh t0 d = some r) : Z E yX12_in cX12_in 3 (some .boolean) 1 (sh, d) 15 [] [.int t0] := by
  unfold f_X12_in_15 at hf
  obtain ⟨v1, ev1, hg⟩ := ob hf
  obtain ⟨rfl, hbv1⟩ := o_bool_spec ev1
  cases hg
  exact z_zreturn hE rfl hbv1 dX12_in_15
set_option maxRecDepth 20000 in
theorem zb_X12_in_14 {N : Nat} {sh : Sh} {d : Dt} {r : Int32} {E : EV} (hE : TG E (some (.int r)) (sh, d))   (hf : f_X12_in_14 N sh  d = some r) : Z E yX12_in cX12_in 3 (some .boolean) 1 (sh, d) 14 [] [] := by
  unfold f_X12_in_14 at hf
  refine z_iconst 0 0 dX12_in_14 (by decide) ?_
  exact zb_X12_in_15 hE hf
set_option maxRecDepth 20000 in
theorem zm_X12_in {N : Nat} {sh : Sh} {d : Dt} {l0 : Int32} {l1 : Int32} {l2 : Int32} {r : Int32} (hf : f_X12_in N sh l0 l1 l2 d = some r) : ∀ (l : Launch) (G : GG), Mt l G yX12_in cX12_in 3 (some .boolean) 1 [.int l0, .int l1, .int l2] (sh, d) (some (.int r)) (sh, d) := by
  have hf0 := hf
  unfold f_X12_in at hf
  refine fun l G => mt_of (Or.inl (by decide)) (Nat.le_of_ble_eq_true rfl) Le.rf (fun E hE => ?_)
  show Z E yX12_in cX12_in 3 (some .boolean) 1 (sh, d) 0 [(0, .int l0), (1, .int l1), (2, .int l2)] []
  refine z_iload_n 0 dX12_in_0 rfl rfl ?_
  refine z_iload_n 1 dX12_in_1 rfl rfl ?_
  refine z_icmp_lt 14 hf dX12_in_2 (by decide) (fun hf => ?_) (fun hf => ?_)
  · refine z_lv [] [] rfl ?_
    exact zb_X12_in_14 hE hf
  · refine z_iload_n 0 dX12_in_5 rfl rfl ?_
    refine z_iload_n 2 dX12_in_6 rfl rfl ?_
    refine z_icmp_gt 14 hf dX12_in_7 (by decide) (fun hf => ?_) (fun hf => ?_)
    · refine z_lv [] [] rfl ?_
      exact zb_X12_in_14 hE hf
    · refine z_iconst 1 1 dX12_in_10 (by decide) ?_
      refine z_goto 15 dX12_in_11 (by decide) ?_
      refine z_lv [] [] rfl ?_
      exact zb_X12_in_15 hE hf
set_option maxRecDepth 20000 in
theorem zm_X12_isPlough {N : Nat} {sh : Sh} {d : Dt} {l0 : Nat} {l1 : Int32} {r : Int32} (hf : f_X12_isPlough N sh l0 l1 d = some r) : isO sh l0 12 ∧ ∀ (l : Launch) (G : GG), Mt l G yX12_isPlough cX12_isPlough 2 (some .boolean) 2 [.ref l0, .int l1] (sh, d) (some (.int r)) (sh, d) := by
  have hf0 := hf
  unfold f_X12_isPlough at hf
  refine ite_d hf (fun hO hf => ?_) (fun _ hf => ?_)
  · refine ⟨hO, fun l G => mt_of (Or.inl (by decide)) (Nat.le_of_ble_eq_true rfl) Le.rf (fun E hE => ?_)⟩
    show Z E yX12_isPlough cX12_isPlough 2 (some .boolean) 2 (sh, d) 0 [(0, .ref l0), (1, .int l1)] []
    refine z_iload_n 1 dX12_isPlough_0 rfl rfl ?_
    refine z_iconst 0 0 dX12_isPlough_1 (by decide) ?_
    refine z_aload_n 0 dX12_isPlough_2 rfl rfl ?_
    refine z_gP (ci := 12) (k := 0) (C := RX12) (T := TX12) (N := 32) rfl inlX12 (by decide) mw_6_19 (fun _ _ _ _ h9 => h9) hf (by decide) rfl dX12_isPlough_3  (fun v1 hf => ?_)
    refine z_iconst 3 3 dX12_isPlough_6 (by decide) ?_
    refine z_aI hf dX12_isPlough_7  (fun v2 hf => ?_)
    refine z_iconst 1 1 dX12_isPlough_8 (by decide) ?_
    refine z_isub dX12_isPlough_9 ?_
    obtain ⟨v3, ev3, hf⟩ := ob hf
    refine z_cTi (As := [.int l1, .int (0 : Int32), .int (v2 - (1 : Int32))]) (rest := []) (zm_X12_in ev3) (Or.inl rfl) mw_11_11 mw_11_12 mw_1_5 mw_11_13 yk_X12_in (by decide) (by decide) rfl (Nat.le_of_ble_eq_true rfl) rfl dX12_isPlough_10 ?_
    obtain ⟨v4, ev4, hg⟩ := ob hf
    obtain ⟨rfl, hbv4⟩ := o_bool_spec ev4
    cases hg
    exact z_zreturn hE rfl hbv4 dX12_isPlough_13
  · cases hf
set_option maxRecDepth 20000 in
theorem zm_X12_isStreet {N : Nat} {sh : Sh} {d : Dt} {l0 : Nat} {l1 : Int32} {r : Int32} (hf : f_X12_isStreet N sh l0 l1 d = some r) : isO sh l0 12 ∧ ∀ (l : Launch) (G : GG), Mt l G yX12_isStreet cX12_isStreet 2 (some .boolean) 2 [.ref l0, .int l1] (sh, d) (some (.int r)) (sh, d) := by
  have hf0 := hf
  unfold f_X12_isStreet at hf
  refine ite_d hf (fun hO hf => ?_) (fun _ hf => ?_)
  · refine ⟨hO, fun l G => mt_of (Or.inl (by decide)) (Nat.le_of_ble_eq_true rfl) Le.rf (fun E hE => ?_)⟩
    show Z E yX12_isStreet cX12_isStreet 2 (some .boolean) 2 (sh, d) 0 [(0, .ref l0), (1, .int l1)] []
    refine z_iload_n 1 dX12_isStreet_0 rfl rfl ?_
    refine z_iconst 0 0 dX12_isStreet_1 (by decide) ?_
    refine z_aload_n 0 dX12_isStreet_2 rfl rfl ?_
    refine z_gP (ci := 12) (k := 0) (C := RX12) (T := TX12) (N := 32) rfl inlX12 (by decide) mw_6_19 (fun _ _ _ _ h9 => h9) hf (by decide) rfl dX12_isStreet_3  (fun v1 hf => ?_)
    refine z_iconst 1 1 dX12_isStreet_6 (by decide) ?_
    refine z_aI hf dX12_isStreet_7  (fun v2 hf => ?_)
    refine z_iconst 1 1 dX12_isStreet_8 (by decide) ?_
    refine z_isub dX12_isStreet_9 ?_
    obtain ⟨v3, ev3, hf⟩ := ob hf
    refine z_cTi (As := [.int l1, .int (0 : Int32), .int (v2 - (1 : Int32))]) (rest := []) (zm_X12_in ev3) (Or.inl rfl) mw_11_11 mw_11_12 mw_1_5 mw_11_13 yk_X12_in (by decide) (by decide) rfl (Nat.le_of_ble_eq_true rfl) rfl dX12_isStreet_10 ?_
    obtain ⟨v4, ev4, hg⟩ := ob hf
    obtain ⟨rfl, hbv4⟩ := o_bool_spec ev4
    cases hg
    exact z_zreturn hE rfl hbv4 dX12_isStreet_13
  · cases hf
set_option maxRecDepth 20000 in
theorem zb_X12_finds_44 {N : Nat} {sh : Sh} {r : Dt} {E : EV} (hE : TG E none (sh, r))   {d : Dt} (hf : f_X12_finds_44 N sh  d = some r) : Z E yX12_finds cX12_finds 2 none 1 (sh, d) 44 [] [] := by
  unfold f_X12_finds_44 at hf
  cases hf
  exact z_return hE rfl dX12_finds_44
set_option maxRecDepth 20000 in
theorem zb_X12_finds_28 {N : Nat} {sh : Sh} {r : Dt} {E : EV} (hE : TG E none (sh, r))  {l0 : Nat} {l1 : Int32} {d : Dt} (hf : f_X12_finds_28 N sh l0 l1 d = some r) : Z E yX12_finds cX12_finds 2 none 1 (sh, d) 28 [(0, .ref l0), (1, .int l1)] [] := by
  unfold f_X12_finds_28 at hf
  refine z_iload_n 1 dX12_finds_28 rfl rfl ?_
  refine z_bipush (-9) (-9) dX12_finds_29 (by decide) ?_
  refine z_icmp_ne 44 hf dX12_finds_31 (by decide) (fun hf => ?_) (fun hf => ?_)
  · refine z_lv [] [] rfl ?_
    exact zb_X12_finds_44 hE hf
  · refine z_aload_n 0 dX12_finds_34 rfl rfl ?_
    refine z_gP (ci := 12) (k := 6) (C := RX12) (T := TX12) (N := 32) rfl inlX12 (by decide) mw_6_21 (fun _ _ _ _ h9 => h9) hf (by decide) rfl dX12_finds_35  (fun v4 hf => ?_)
    refine z_iconst 4 4 dX12_finds_38 (by decide) ?_
    refine z_dup2_11 dX12_finds_39 rfl rfl ?_
    refine z_aI hf dX12_finds_40  (fun v5 hf => ?_)
    refine z_iconst 1 1 dX12_finds_41 (by decide) ?_
    refine z_iadd dX12_finds_42 ?_
    refine z_sI hf dX12_finds_43  (fun d6 hf => ?_)
    refine z_lv [] [] rfl ?_
    exact zb_X12_finds_44 hE hf
set_option maxRecDepth 20000 in
theorem zm_X12_finds {N : Nat} {sh : Sh} {d : Dt} {l0 : Nat} {l1 : Int32} {r : Dt} (hf : f_X12_finds N sh l0 l1 d = some r) : isO sh l0 12 ∧ ∀ (l : Launch) (G : GG), Mt l G yX12_finds cX12_finds 2 none 1 [.ref l0, .int l1] (sh, d) none (sh, r) := by
  have hf0 := hf
  unfold f_X12_finds at hf
  refine ite_d hf (fun hO hf => ?_) (fun _ hf => ?_)
  · refine ⟨hO, fun l G => mt_of (Or.inl (by decide)) (Nat.le_of_ble_eq_true rfl) Le.rf (fun E hE => ?_)⟩
    show Z E yX12_finds cX12_finds 2 none 1 (sh, d) 0 [(0, .ref l0), (1, .int l1)] []
    refine z_iload_n 1 dX12_finds_0 rfl rfl ?_
    refine z_bipush (-4) (-4) dX12_finds_1 (by decide) ?_
    refine z_icmp_gt 28 hf dX12_finds_3 (by decide) (fun hf => ?_) (fun hf => ?_)
    · exact zb_X12_finds_28 hE hf
    · refine z_iload_n 1 dX12_finds_6 rfl rfl ?_
      refine z_bipush (-7) (-7) dX12_finds_7 (by decide) ?_
      refine z_icmp_lt 28 hf dX12_finds_9 (by decide) (fun hf => ?_) (fun hf => ?_)
      · exact zb_X12_finds_28 hE hf
      · refine z_aload_n 0 dX12_finds_12 rfl rfl ?_
        refine z_gP (ci := 12) (k := 6) (C := RX12) (T := TX12) (N := 32) rfl inlX12 (by decide) mw_6_21 (fun _ _ _ _ h9 => h9) hf (by decide) rfl dX12_finds_13  (fun v1 hf => ?_)
        refine z_bipush (-4) (-4) dX12_finds_16 (by decide) ?_
        refine z_iload_n 1 dX12_finds_18 rfl rfl ?_
        refine z_isub dX12_finds_19 ?_
        refine z_dup2_11 dX12_finds_20 rfl rfl ?_
        refine z_aI hf dX12_finds_21  (fun v2 hf => ?_)
        refine z_iconst 1 1 dX12_finds_22 (by decide) ?_
        refine z_iadd dX12_finds_23 ?_
        refine z_sI hf dX12_finds_24  (fun d3 hf => ?_)
        refine z_goto 44 dX12_finds_25 (by decide) ?_
        refine z_lv [] [] rfl ?_
        exact zb_X12_finds_44 hE hf
  · cases hf
set_option maxRecDepth 20000 in
theorem zm_X12_refuses {N : Nat} {sh : Sh} {d : Dt} {l0 : Nat} {l1 : Int32} {r : Int32 × Dt} (hf : f_X12_refuses N sh l0 l1 d = some r) : isO sh l0 12 ∧ ∀ (l : Launch) (G : GG), Mt l G yX12_refuses cX12_refuses 2 (some .int) 2 [.ref l0, .int l1] (sh, d) (some (.int r.1)) (sh, r.2) := by
  have hf0 := hf
  unfold f_X12_refuses at hf
  refine ite_d hf (fun hO hf => ?_) (fun _ hf => ?_)
  · refine ⟨hO, fun l G => mt_of (Or.inl (by decide)) (Nat.le_of_ble_eq_true rfl) Le.rf (fun E hE => ?_)⟩
    show Z E yX12_refuses cX12_refuses 2 (some .int) 2 (sh, d) 0 [(0, .ref l0), (1, .int l1)] []
    refine z_aload_n 0 dX12_refuses_0 rfl rfl ?_
    refine z_iload_n 1 dX12_refuses_1 rfl rfl ?_
    refine z_pI (ci := 12) (k := 3) (C := RX12) (T := TX12) (N := 32) rfl inlX12 (by decide) mw_11_18 (fun _ _ _ _ h9 => h9) tyX12 tyX12_ok nmX12 rfl hf (Or.inl (by decide)) rfl rfl rfl dX12_refuses_2  (fun d1 hf => ?_)
    refine z_aload_n 0 dX12_refuses_5 rfl rfl ?_
    refine z_iload_n 1 dX12_refuses_6 rfl rfl ?_
    obtain ⟨v2, ev2, hf⟩ := ob hf
    refine z_cVv (ci := 12) (T := TX12) (N := 32) (As := [.int l1]) (rest := []) (zm_X12_finds ev2).2 (zm_X12_finds ev2).1 (by decide) rfl (Or.inl rfl) mw_11_19 mw_11_20 mw_11_21 mw_1_5 mw_11_22 yk_X12_finds (by decide) (by decide) rfl (Nat.le_of_ble_eq_true rfl) rfl dX12_refuses_7 ?_
    refine z_iload_n 1 dX12_refuses_10 rfl rfl ?_
    cases hf
    exact z_ireturn hE rfl dX12_refuses_11
  · cases hf
set_option maxRecDepth 20000 in
theorem zm_X12_pl {N : Nat} {sh : Sh} {d : Dt} {l0 : Nat} {l1 : Int32} {r : Int32} (hf : f_X12_pl N sh l0 l1 d = some r) : isO sh l0 12 ∧ ∀ (l : Launch) (G : GG), Mt l G yX12_pl cX12_pl 2 (some .int) 1 [.ref l0, .int l1] (sh, d) (some (.int r)) (sh, d) := by
  have hf0 := hf
  unfold f_X12_pl at hf
  refine ite_d hf (fun hO hf => ?_) (fun _ hf => ?_)
  · refine ⟨hO, fun l G => mt_of (Or.inl (by decide)) (Nat.le_of_ble_eq_true rfl) Le.rf (fun E hE => ?_)⟩
    show Z E yX12_pl cX12_pl 2 (some .int) 1 (sh, d) 0 [(0, .ref l0), (1, .int l1)] []
    refine z_sipush 9426 9426 dX12_pl_0 (by decide) ?_
    refine z_bipush 13 13 dX12_pl_3 (by decide) ?_
    refine z_iload_n 1 dX12_pl_5 rfl rfl ?_
    refine z_imul dX12_pl_6 ?_
    refine z_iadd dX12_pl_7 ?_
    cases hf
    exact z_ireturn hE rfl dX12_pl_8
  · cases hf
set_option maxRecDepth 20000 in
theorem zm_X12_kindOf {N : Nat} {sh : Sh} {d : Dt} {l0 : Nat} {l1 : Int32} {r : Int32} (hf : f_X12_kindOf N sh l0 l1 d = some r) : isO sh l0 12 ∧ ∀ (l : Launch) (G : GG), Mt l G yX12_kindOf cX12_kindOf 2 (some .int) 2 [.ref l0, .int l1] (sh, d) (some (.int r)) (sh, d) := by
  have hf0 := hf
  unfold f_X12_kindOf at hf
  refine ite_d hf (fun hO hf => ?_) (fun _ hf => ?_)
  · refine ⟨hO, fun l G => mt_of (Or.inl (by decide)) (Nat.le_of_ble_eq_true rfl) Le.rf (fun E hE => ?_)⟩
    show Z E yX12_kindOf cX12_kindOf 2 (some .int) 2 (sh, d) 0 [(0, .ref l0), (1, .int l1)] []
    refine z_aload_n 0 dX12_kindOf_0 rfl rfl ?_
    refine z_gP (ci := 12) (k := 0) (C := RX12) (T := TX12) (N := 32) rfl inlX12 (by decide) mw_6_19 (fun _ _ _ _ h9 => h9) hf (by decide) rfl dX12_kindOf_1  (fun v1 hf => ?_)
    refine z_aload_n 0 dX12_kindOf_4 rfl rfl ?_
    refine z_iload_n 1 dX12_kindOf_5 rfl rfl ?_
    obtain ⟨v2, ev2, hf⟩ := ob hf
    refine z_cVi (ci := 12) (T := TX12) (N := 32) (As := [.int l1]) (rest := [.ref v1]) (zm_X12_pl ev2).2 (zm_X12_pl ev2).1 (by decide) rfl (Or.inl rfl) mw_31_6 mw_31_7 mw_31_8 mw_1_5 mw_31_9 yk_X12_pl (by decide) (by decide) rfl (Nat.le_of_ble_eq_true rfl) rfl dX12_kindOf_6 ?_
    refine z_iconst 0 0 dX12_kindOf_9 (by decide) ?_
    refine z_iadd dX12_kindOf_10 ?_
    refine z_aI hf dX12_kindOf_11  (fun v3 hf => ?_)
    cases hf
    exact z_ireturn hE rfl dX12_kindOf_12
  · cases hf
set_option maxRecDepth 20000 in
theorem zm_X12_first {N : Nat} {sh : Sh} {d : Dt} {l0 : Nat} {l1 : Int32} {r : Int32} (hf : f_X12_first N sh l0 l1 d = some r) : isO sh l0 12 ∧ ∀ (l : Launch) (G : GG), Mt l G yX12_first cX12_first 2 (some .int) 3 [.ref l0, .int l1] (sh, d) (some (.int r)) (sh, d) := by
  have hf0 := hf
  unfold f_X12_first at hf
  refine ite_d hf (fun hO hf => ?_) (fun _ hf => ?_)
  · refine ⟨hO, fun l G => mt_of (Or.inl (by decide)) (Nat.le_of_ble_eq_true rfl) Le.rf (fun E hE => ?_)⟩
    show Z E yX12_first cX12_first 2 (some .int) 3 (sh, d) 0 [(0, .ref l0), (1, .int l1)] []
    refine z_aload_n 0 dX12_first_0 rfl rfl ?_
    refine z_aload_n 0 dX12_first_1 rfl rfl ?_
    refine z_gP (ci := 12) (k := 0) (C := RX12) (T := TX12) (N := 32) rfl inlX12 (by decide) mw_6_19 (fun _ _ _ _ h9 => h9) hf (by decide) rfl dX12_first_2  (fun v1 hf => ?_)
    refine z_aload_n 0 dX12_first_5 rfl rfl ?_
    refine z_iload_n 1 dX12_first_6 rfl rfl ?_
    obtain ⟨v2, ev2, hf⟩ := ob hf
    refine z_cVi (ci := 12) (T := TX12) (N := 32) (As := [.int l1]) (rest := [.ref v1, .ref l0]) (zm_X12_pl ev2).2 (zm_X12_pl ev2).1 (by decide) rfl (Or.inl rfl) mw_31_6 mw_31_7 mw_31_8 mw_1_5 mw_31_9 yk_X12_pl (by decide) (by decide) rfl (Nat.le_of_ble_eq_true rfl) rfl dX12_first_7 ?_
    refine z_iconst 3 3 dX12_first_10 (by decide) ?_
    refine z_iadd dX12_first_11 ?_
    refine z_aI hf dX12_first_12  (fun v3 hf => ?_)
    obtain ⟨v4, ev4, hf⟩ := ob hf
    refine z_cVi (ci := 12) (T := TX12) (N := 32) (As := [.int v3]) (rest := []) (zm_X12_kindOf ev4).2 (zm_X12_kindOf ev4).1 (by decide) rfl (Or.inl rfl) mw_37_9 mw_37_10 mw_37_11 mw_1_5 mw_37_12 yk_X12_kindOf (by decide) (by decide) rfl (Nat.le_of_ble_eq_true rfl) rfl dX12_first_13 ?_
    cases hf
    exact z_ireturn hE rfl dX12_first_16
  · cases hf
set_option maxRecDepth 20000 in
theorem zb_X12_speedOf_31 {N : Nat} {sh : Sh} {d : Dt} {r : Int32} {E : EV} (hE : TG E (some (.int r)) (sh, d))  {t0 : Int32} (hf : f_X12_speedOf_31 N sh t0 d = some r) : Z E yX12_speedOf cX12_speedOf 1 (some .int) 1 (sh, d) 31 [] [.int t0] := by
  unfold f_X12_speedOf_31 at hf
  cases hf
  exact z_ireturn hE rfl dX12_speedOf_31
set_option maxRecDepth 20000 in
theorem zm_X12_speedOf {N : Nat} {sh : Sh} {d : Dt} {l0 : Int32} {r : Int32} (hf : f_X12_speedOf N sh l0 d = some r) : ∀ (l : Launch) (G : GG), Mt l G yX12_speedOf cX12_speedOf 1 (some .int) 1 [.int l0] (sh, d) (some (.int r)) (sh, d) := by
  have hf0 := hf
  unfold f_X12_speedOf at hf
  refine fun l G => mt_of (Or.inl (by decide)) (Nat.le_of_ble_eq_true rfl) Le.rf (fun E hE => ?_)
  show Z E yX12_speedOf cX12_speedOf 1 (some .int) 1 (sh, d) 0 [(0, .int l0)] []
  refine z_iload_n 0 dX12_speedOf_0 rfl rfl ?_
  refine z_if_ne 9 hf dX12_speedOf_1 (by decide) (fun hf => ?_) (fun hf => ?_)
  · refine z_iload_n 0 dX12_speedOf_9 rfl rfl ?_
    refine z_iconst 1 1 dX12_speedOf_10 (by decide) ?_
    refine z_icmp_ne 19 hf dX12_speedOf_11 (by decide) (fun hf => ?_) (fun hf => ?_)
    · refine z_iload_n 0 dX12_speedOf_19 rfl rfl ?_
      refine z_iconst 2 2 dX12_speedOf_20 (by decide) ?_
      refine z_icmp_ne 29 hf dX12_speedOf_21 (by decide) (fun hf => ?_) (fun hf => ?_)
      · refine z_bipush 20 20 dX12_speedOf_29 (by decide) ?_
        refine z_lv [] [] rfl ?_
        exact zb_X12_speedOf_31 hE hf
      · refine z_bipush 45 45 dX12_speedOf_24 (by decide) ?_
        refine z_goto 31 dX12_speedOf_26 (by decide) ?_
        refine z_lv [] [] rfl ?_
        exact zb_X12_speedOf_31 hE hf
    · refine z_bipush 30 30 dX12_speedOf_14 (by decide) ?_
      refine z_goto 31 dX12_speedOf_16 (by decide) ?_
      refine z_lv [] [] rfl ?_
      exact zb_X12_speedOf_31 hE hf
  · refine z_bipush 50 50 dX12_speedOf_4 (by decide) ?_
    refine z_goto 31 dX12_speedOf_6 (by decide) ?_
    refine z_lv [] [] rfl ?_
    exact zb_X12_speedOf_31 hE hf
set_option maxRecDepth 20000 in
theorem zm_X12_second {N : Nat} {sh : Sh} {d : Dt} {l0 : Nat} {l1 : Int32} {r : Int32} (hf : f_X12_second N sh l0 l1 d = some r) : isO sh l0 12 ∧ ∀ (l : Launch) (G : GG), Mt l G yX12_second cX12_second 2 (some .int) 3 [.ref l0, .int l1] (sh, d) (some (.int r)) (sh, d) := by
  have hf0 := hf
  unfold f_X12_second at hf
  refine ite_d hf (fun hO hf => ?_) (fun _ hf => ?_)
  · refine ⟨hO, fun l G => mt_of (Or.inl (by decide)) (Nat.le_of_ble_eq_true rfl) Le.rf (fun E hE => ?_)⟩
    show Z E yX12_second cX12_second 2 (some .int) 3 (sh, d) 0 [(0, .ref l0), (1, .int l1)] []
    refine z_aload_n 0 dX12_second_0 rfl rfl ?_
    refine z_aload_n 0 dX12_second_1 rfl rfl ?_
    refine z_gP (ci := 12) (k := 0) (C := RX12) (T := TX12) (N := 32) rfl inlX12 (by decide) mw_6_19 (fun _ _ _ _ h9 => h9) hf (by decide) rfl dX12_second_2  (fun v1 hf => ?_)
    refine z_aload_n 0 dX12_second_5 rfl rfl ?_
    refine z_iload_n 1 dX12_second_6 rfl rfl ?_
    obtain ⟨v2, ev2, hf⟩ := ob hf
    refine z_cVi (ci := 12) (T := TX12) (N := 32) (As := [.int l1]) (rest := [.ref v1, .ref l0]) (zm_X12_pl ev2).2 (zm_X12_pl ev2).1 (by decide) rfl (Or.inl rfl) mw_31_6 mw_31_7 mw_31_8 mw_1_5 mw_31_9 yk_X12_pl (by decide) (by decide) rfl (Nat.le_of_ble_eq_true rfl) rfl dX12_second_7 ?_
    refine z_iconst 4 4 dX12_second_10 (by decide) ?_
    refine z_iadd dX12_second_11 ?_
    refine z_aI hf dX12_second_12  (fun v3 hf => ?_)
    obtain ⟨v4, ev4, hf⟩ := ob hf
    refine z_cVi (ci := 12) (T := TX12) (N := 32) (As := [.int v3]) (rest := []) (zm_X12_kindOf ev4).2 (zm_X12_kindOf ev4).1 (by decide) rfl (Or.inl rfl) mw_37_9 mw_37_10 mw_37_11 mw_1_5 mw_37_12 yk_X12_kindOf (by decide) (by decide) rfl (Nat.le_of_ble_eq_true rfl) rfl dX12_second_13 ?_
    cases hf
    exact z_ireturn hE rfl dX12_second_16
  · cases hf
set_option maxRecDepth 20000 in
theorem zb_X12_lesser_10 {N : Nat} {sh : Sh} {d : Dt} {r : Int32} {E : EV} (hE : TG E (some (.int r)) (sh, d))  {t0 : Int32} (hf : f_X12_lesser_10 N sh t0 d = some r) : Z E yX12_lesser cX12_lesser 2 (some .int) 1 (sh, d) 10 [] [.int t0] := by
  unfold f_X12_lesser_10 at hf
  cases hf
  exact z_ireturn hE rfl dX12_lesser_10
set_option maxRecDepth 20000 in
theorem zm_X12_lesser {N : Nat} {sh : Sh} {d : Dt} {l0 : Int32} {l1 : Int32} {r : Int32} (hf : f_X12_lesser N sh l0 l1 d = some r) : ∀ (l : Launch) (G : GG), Mt l G yX12_lesser cX12_lesser 2 (some .int) 1 [.int l0, .int l1] (sh, d) (some (.int r)) (sh, d) := by
  have hf0 := hf
  unfold f_X12_lesser at hf
  refine fun l G => mt_of (Or.inl (by decide)) (Nat.le_of_ble_eq_true rfl) Le.rf (fun E hE => ?_)
  show Z E yX12_lesser cX12_lesser 2 (some .int) 1 (sh, d) 0 [(0, .int l0), (1, .int l1)] []
  refine z_iload_n 0 dX12_lesser_0 rfl rfl ?_
  refine z_iload_n 1 dX12_lesser_1 rfl rfl ?_
  refine z_icmp_ge 9 hf dX12_lesser_2 (by decide) (fun hf => ?_) (fun hf => ?_)
  · refine z_iload_n 1 dX12_lesser_9 rfl rfl ?_
    refine z_lv [] [] rfl ?_
    exact zb_X12_lesser_10 hE hf
  · refine z_iload_n 0 dX12_lesser_5 rfl rfl ?_
    refine z_goto 10 dX12_lesser_6 (by decide) ?_
    refine z_lv [] [] rfl ?_
    exact zb_X12_lesser_10 hE hf
set_option maxRecDepth 20000 in
theorem zb_X12_speed_39 {N : Nat} {sh : Sh} {d : Dt} {r : Int32} {E : EV} (hE : TG E (some (.int r)) (sh, d))  {t0 : Int32} (hf : f_X12_speed_39 N sh t0 d = some r) : Z E yX12_speed cX12_speed 2 (some .int) 4 (sh, d) 39 [] [.int t0] := by
  unfold f_X12_speed_39 at hf
  cases hf
  exact z_ireturn hE rfl dX12_speed_39
set_option maxRecDepth 20000 in
theorem zm_X12_speed {N : Nat} {sh : Sh} {d : Dt} {l0 : Nat} {l1 : Int32} {r : Int32} (hf : f_X12_speed N sh l0 l1 d = some r) : isO sh l0 12 ∧ ∀ (l : Launch) (G : GG), Mt l G yX12_speed cX12_speed 2 (some .int) 4 [.ref l0, .int l1] (sh, d) (some (.int r)) (sh, d) := by
  have hf0 := hf
  unfold f_X12_speed at hf
  refine ite_d hf (fun hO hf => ?_) (fun _ hf => ?_)
  · refine ⟨hO, fun l G => mt_of (Or.inl (by decide)) (Nat.le_of_ble_eq_true rfl) Le.rf (fun E hE => ?_)⟩
    show Z E yX12_speed cX12_speed 2 (some .int) 4 (sh, d) 0 [(0, .ref l0), (1, .int l1)] []
    refine z_aload_n 0 dX12_speed_0 rfl rfl ?_
    refine z_iload_n 1 dX12_speed_1 rfl rfl ?_
    obtain ⟨v1, ev1, hf⟩ := ob hf
    refine z_cVi (ci := 12) (T := TX12) (N := 32) (As := [.int l1]) (rest := []) (zm_X12_kindOf ev1).2 (zm_X12_kindOf ev1).1 (by decide) rfl (Or.inl rfl) mw_37_9 mw_37_10 mw_37_11 mw_1_5 mw_37_12 yk_X12_kindOf (by decide) (by decide) rfl (Nat.le_of_ble_eq_true rfl) rfl dX12_speed_2 ?_
    refine z_iconst 4 4 dX12_speed_5 (by decide) ?_
    refine z_icmp_ne 31 hf dX12_speed_6 (by decide) (fun hf => ?_) (fun hf => ?_)
    · refine z_aload_n 0 dX12_speed_31 rfl rfl ?_
      refine z_iload_n 1 dX12_speed_32 rfl rfl ?_
      obtain ⟨v2, ev2, hf⟩ := ob hf
      refine z_cVi (ci := 12) (T := TX12) (N := 32) (As := [.int l1]) (rest := []) (zm_X12_kindOf ev2).2 (zm_X12_kindOf ev2).1 (by decide) rfl (Or.inl rfl) mw_37_9 mw_37_10 mw_37_11 mw_1_5 mw_37_12 yk_X12_kindOf (by decide) (by decide) rfl (Nat.le_of_ble_eq_true rfl) rfl dX12_speed_33 ?_
      obtain ⟨v3, ev3, hf⟩ := ob hf
      refine z_cTi (As := [.int v2]) (rest := []) (zm_X12_speedOf ev3) (Or.inl rfl) mw_37_17 mw_37_18 mw_1_5 mw_37_19 yk_X12_speedOf (by decide) (by decide) rfl (Nat.le_of_ble_eq_true rfl) rfl dX12_speed_36 ?_
      refine z_lv [] [] rfl ?_
      exact zb_X12_speed_39 hE hf
    · refine z_aload_n 0 dX12_speed_9 rfl rfl ?_
      refine z_iload_n 1 dX12_speed_10 rfl rfl ?_
      obtain ⟨v4, ev4, hf⟩ := ob hf
      refine z_cVi (ci := 12) (T := TX12) (N := 32) (As := [.int l1]) (rest := []) (zm_X12_first ev4).2 (zm_X12_first ev4).1 (by decide) rfl (Or.inl rfl) mw_37_13 mw_37_14 mw_37_15 mw_1_5 mw_37_16 yk_X12_first (by decide) (by decide) rfl (Nat.le_of_ble_eq_true rfl) rfl dX12_speed_11 ?_
      obtain ⟨v5, ev5, hf⟩ := ob hf
      refine z_cTi (As := [.int v4]) (rest := []) (zm_X12_speedOf ev5) (Or.inl rfl) mw_37_17 mw_37_18 mw_1_5 mw_37_19 yk_X12_speedOf (by decide) (by decide) rfl (Nat.le_of_ble_eq_true rfl) rfl dX12_speed_14 ?_
      refine z_aload_n 0 dX12_speed_17 rfl rfl ?_
      refine z_iload_n 1 dX12_speed_18 rfl rfl ?_
      obtain ⟨v6, ev6, hf⟩ := ob hf
      refine z_cVi (ci := 12) (T := TX12) (N := 32) (As := [.int l1]) (rest := [.int v5]) (zm_X12_second ev6).2 (zm_X12_second ev6).1 (by decide) rfl (Or.inl rfl) mw_37_20 mw_37_21 mw_37_22 mw_1_5 mw_37_23 yk_X12_second (by decide) (by decide) rfl (Nat.le_of_ble_eq_true rfl) rfl dX12_speed_19 ?_
      obtain ⟨v7, ev7, hf⟩ := ob hf
      refine z_cTi (As := [.int v6]) (rest := [.int v5]) (zm_X12_speedOf ev7) (Or.inl rfl) mw_37_17 mw_37_18 mw_1_5 mw_37_19 yk_X12_speedOf (by decide) (by decide) rfl (Nat.le_of_ble_eq_true rfl) rfl dX12_speed_22 ?_
      obtain ⟨v8, ev8, hf⟩ := ob hf
      refine z_cTi (As := [.int v5, .int v7]) (rest := []) (zm_X12_lesser ev8) (Or.inl rfl) mw_25_11 mw_25_12 mw_1_5 mw_25_13 yk_X12_lesser (by decide) (by decide) rfl (Nat.le_of_ble_eq_true rfl) rfl dX12_speed_25 ?_
      refine z_goto 39 dX12_speed_28 (by decide) ?_
      refine z_lv [] [] rfl ?_
      exact zb_X12_speed_39 hE hf
  · cases hf
set_option maxRecDepth 20000 in
theorem zm_X12_says {N : Nat} {sh : Sh} {d : Dt} {l0 : Nat} {l1 : Int32} {r : Int32 × Dt} (hf : f_X12_says N sh l0 l1 d = some r) : isO sh l0 12 ∧ ∀ (l : Launch) (G : GG), Mt l G yX12_says cX12_says 2 (some .int) 1 [.ref l0, .int l1] (sh, d) (some (.int r.1)) (sh, r.2) := by
  have hf0 := hf
  unfold f_X12_says at hf
  refine ite_d hf (fun hO hf => ?_) (fun _ hf => ?_)
  · refine ⟨hO, fun l G => mt_of (Or.inl (by decide)) (Nat.le_of_ble_eq_true rfl) Le.rf (fun E hE => ?_)⟩
    show Z E yX12_says cX12_says 2 (some .int) 1 (sh, d) 0 [(0, .ref l0), (1, .int l1)] []
    refine z_aload_n 0 dX12_says_0 rfl rfl ?_
    refine z_iconst 0 0 dX12_says_1 (by decide) ?_
    refine z_pI (ci := 12) (k := 3) (C := RX12) (T := TX12) (N := 32) rfl inlX12 (by decide) mw_11_18 (fun _ _ _ _ h9 => h9) tyX12 tyX12_ok nmX12 rfl hf (Or.inl (by decide)) rfl rfl rfl dX12_says_2  (fun d1 hf => ?_)
    refine z_iload_n 1 dX12_says_5 rfl rfl ?_
    cases hf
    exact z_ireturn hE rfl dX12_says_6
  · cases hf
set_option maxRecDepth 20000 in
theorem zb_X12_reachOf_25 {N : Nat} {sh : Sh} {d : Dt} {r : Int32} {E : EV} (hE : TG E (some (.int r)) (sh, d))  {t0 : Int32} (hf : f_X12_reachOf_25 N sh t0 d = some r) : Z E yX12_reachOf cX12_reachOf 1 (some .int) 1 (sh, d) 25 [] [.int t0] := by
  unfold f_X12_reachOf_25 at hf
  cases hf
  exact z_ireturn hE rfl dX12_reachOf_25
set_option maxRecDepth 20000 in
theorem zm_X12_reachOf {N : Nat} {sh : Sh} {d : Dt} {l0 : Int32} {r : Int32} (hf : f_X12_reachOf N sh l0 d = some r) : ∀ (l : Launch) (G : GG), Mt l G yX12_reachOf cX12_reachOf 1 (some .int) 1 [.int l0] (sh, d) (some (.int r)) (sh, d) := by
  have hf0 := hf
  unfold f_X12_reachOf at hf
  refine fun l G => mt_of (Or.inl (by decide)) (Nat.le_of_ble_eq_true rfl) Le.rf (fun E hE => ?_)
  show Z E yX12_reachOf cX12_reachOf 1 (some .int) 1 (sh, d) 0 [(0, .int l0)] []
  refine z_iload_n 0 dX12_reachOf_0 rfl rfl ?_
  refine z_iconst 1 1 dX12_reachOf_1 (by decide) ?_
  refine z_icmp_ne 11 hf dX12_reachOf_2 (by decide) (fun hf => ?_) (fun hf => ?_)
  · refine z_iload_n 0 dX12_reachOf_11 rfl rfl ?_
    refine z_iconst 3 3 dX12_reachOf_12 (by decide) ?_
    refine z_icmp_ne 22 hf dX12_reachOf_13 (by decide) (fun hf => ?_) (fun hf => ?_)
    · refine z_sipush 200 200 dX12_reachOf_22 (by decide) ?_
      refine z_lv [] [] rfl ?_
      exact zb_X12_reachOf_25 hE hf
    · refine z_sipush 400 400 dX12_reachOf_16 (by decide) ?_
      refine z_goto 25 dX12_reachOf_19 (by decide) ?_
      refine z_lv [] [] rfl ?_
      exact zb_X12_reachOf_25 hE hf
  · refine z_sipush 600 600 dX12_reachOf_5 (by decide) ?_
    refine z_goto 25 dX12_reachOf_8 (by decide) ?_
    refine z_lv [] [] rfl ?_
    exact zb_X12_reachOf_25 hE hf
set_option maxRecDepth 20000 in
theorem zb_X12_reach_37 {N : Nat} {sh : Sh} {d : Dt} {r : Int32} {E : EV} (hE : TG E (some (.int r)) (sh, d))  {t0 : Int32} (hf : f_X12_reach_37 N sh t0 d = some r) : Z E yX12_reach cX12_reach 2 (some .int) 4 (sh, d) 37 [] [.int t0] := by
  unfold f_X12_reach_37 at hf
  cases hf
  exact z_ireturn hE rfl dX12_reach_37
set_option maxRecDepth 20000 in
theorem zm_X12_reach {N : Nat} {sh : Sh} {d : Dt} {l0 : Nat} {l1 : Int32} {r : Int32} (hf : f_X12_reach N sh l0 l1 d = some r) : isO sh l0 12 ∧ ∀ (l : Launch) (G : GG), Mt l G yX12_reach cX12_reach 2 (some .int) 4 [.ref l0, .int l1] (sh, d) (some (.int r)) (sh, d) := by
  have hf0 := hf
  unfold f_X12_reach at hf
  refine ite_d hf (fun hO hf => ?_) (fun _ hf => ?_)
  · refine ⟨hO, fun l G => mt_of (Or.inl (by decide)) (Nat.le_of_ble_eq_true rfl) Le.rf (fun E hE => ?_)⟩
    show Z E yX12_reach cX12_reach 2 (some .int) 4 (sh, d) 0 [(0, .ref l0), (1, .int l1)] []
    refine z_aload_n 0 dX12_reach_0 rfl rfl ?_
    refine z_iload_n 1 dX12_reach_1 rfl rfl ?_
    obtain ⟨v1, ev1, hf⟩ := ob hf
    refine z_cVi (ci := 12) (T := TX12) (N := 32) (As := [.int l1]) (rest := []) (zm_X12_kindOf ev1).2 (zm_X12_kindOf ev1).1 (by decide) rfl (Or.inl rfl) mw_37_9 mw_37_10 mw_37_11 mw_1_5 mw_37_12 yk_X12_kindOf (by decide) (by decide) rfl (Nat.le_of_ble_eq_true rfl) rfl dX12_reach_2 ?_
    refine z_iconst 4 4 dX12_reach_5 (by decide) ?_
    refine z_icmp_ne 29 hf dX12_reach_6 (by decide) (fun hf => ?_) (fun hf => ?_)
    · refine z_aload_n 0 dX12_reach_29 rfl rfl ?_
      refine z_iload_n 1 dX12_reach_30 rfl rfl ?_
      obtain ⟨v2, ev2, hf⟩ := ob hf
      refine z_cVi (ci := 12) (T := TX12) (N := 32) (As := [.int l1]) (rest := []) (zm_X12_kindOf ev2).2 (zm_X12_kindOf ev2).1 (by decide) rfl (Or.inl rfl) mw_37_9 mw_37_10 mw_37_11 mw_1_5 mw_37_12 yk_X12_kindOf (by decide) (by decide) rfl (Nat.le_of_ble_eq_true rfl) rfl dX12_reach_31 ?_
      obtain ⟨v3, ev3, hf⟩ := ob hf
      refine z_cTi (As := [.int v2]) (rest := []) (zm_X12_reachOf ev3) (Or.inl rfl) mw_38_4 mw_38_5 mw_1_5 mw_38_6 yk_X12_reachOf (by decide) (by decide) rfl (Nat.le_of_ble_eq_true rfl) rfl dX12_reach_34 ?_
      refine z_lv [] [] rfl ?_
      exact zb_X12_reach_37 hE hf
    · refine z_aload_n 0 dX12_reach_9 rfl rfl ?_
      refine z_iload_n 1 dX12_reach_10 rfl rfl ?_
      obtain ⟨v4, ev4, hf⟩ := ob hf
      refine z_cVi (ci := 12) (T := TX12) (N := 32) (As := [.int l1]) (rest := []) (zm_X12_first ev4).2 (zm_X12_first ev4).1 (by decide) rfl (Or.inl rfl) mw_37_13 mw_37_14 mw_37_15 mw_1_5 mw_37_16 yk_X12_first (by decide) (by decide) rfl (Nat.le_of_ble_eq_true rfl) rfl dX12_reach_11 ?_
      obtain ⟨v5, ev5, hf⟩ := ob hf
      refine z_cTi (As := [.int v4]) (rest := []) (zm_X12_reachOf ev5) (Or.inl rfl) mw_38_4 mw_38_5 mw_1_5 mw_38_6 yk_X12_reachOf (by decide) (by decide) rfl (Nat.le_of_ble_eq_true rfl) rfl dX12_reach_14 ?_
      refine z_aload_n 0 dX12_reach_17 rfl rfl ?_
      refine z_iload_n 1 dX12_reach_18 rfl rfl ?_
      obtain ⟨v6, ev6, hf⟩ := ob hf
      refine z_cVi (ci := 12) (T := TX12) (N := 32) (As := [.int l1]) (rest := [.int v5]) (zm_X12_second ev6).2 (zm_X12_second ev6).1 (by decide) rfl (Or.inl rfl) mw_37_20 mw_37_21 mw_37_22 mw_1_5 mw_37_23 yk_X12_second (by decide) (by decide) rfl (Nat.le_of_ble_eq_true rfl) rfl dX12_reach_19 ?_
      obtain ⟨v7, ev7, hf⟩ := ob hf
      refine z_cTi (As := [.int v6]) (rest := [.int v5]) (zm_X12_reachOf ev7) (Or.inl rfl) mw_38_4 mw_38_5 mw_1_5 mw_38_6 yk_X12_reachOf (by decide) (by decide) rfl (Nat.le_of_ble_eq_true rfl) rfl dX12_reach_22 ?_
      refine z_iadd dX12_reach_25 ?_
      refine z_goto 37 dX12_reach_26 (by decide) ?_
      refine z_lv [] [] rfl ?_
      exact zb_X12_reach_37 hE hf
  · cases hf
set_option maxRecDepth 20000 in
theorem zb_X12_takesOf_70 {N : Nat} {sh : Sh} {r : Int32 × Dt} {E : EV} (hE : TG E (some (.int r.1)) (sh, r.2))  {t0 : Int32} {d : Dt} (hf : f_X12_takesOf_70 N sh t0 d = some r) : Z E yX12_takesOf cX12_takesOf 5 (some .int) 2 (sh, d) 70 [] [.int t0] := by
  unfold f_X12_takesOf_70 at hf
  cases hf
  exact z_ireturn hE rfl dX12_takesOf_70
set_option maxRecDepth 20000 in
theorem zb_X12_takesOf_40 {N : Nat} {sh : Sh} {r : Int32 × Dt} {E : EV} (hE : TG E (some (.int r.1)) (sh, r.2))  {l1 : Int32} {l4 : Int32} {t0 : Nat} {t1 : Int32} {t2 : Int32} {d : Dt} (hf : f_X12_takesOf_40 N sh l1 l4 t0 t1 t2 d = some r) : Z E yX12_takesOf cX12_takesOf 5 (some .int) 2 (sh, d) 40 [(1, .int l1), (4, .int l4)] [.int t2, .int t1, .ref t0] := by
  unfold f_X12_takesOf_40 at hf
  refine z_iadd dX12_takesOf_40 ?_
  refine z_pI (ci := 12) (k := 4) (C := RX12) (T := TX12) (N := 32) rfl inlX12 (by decide) mw_38_11 (fun _ _ _ _ h9 => h9) tyX12 tyX12_ok nmX12 rfl hf (Or.inl (by decide)) rfl rfl rfl dX12_takesOf_41  (fun d4 hf => ?_)
  refine z_iload_n 0 dX12_takesOf_44 rfl rfl ?_
  refine z_iconst 3 3 dX12_takesOf_45 (by decide) ?_
  refine z_icmp_ne 56 hf dX12_takesOf_46 (by decide) (fun hf => ?_) (fun hf => ?_)
  · refine z_iload_n 0 dX12_takesOf_56 rfl rfl ?_
    refine z_iconst 2 2 dX12_takesOf_57 (by decide) ?_
    refine z_icmp_ne 68 hf dX12_takesOf_58 (by decide) (fun hf => ?_) (fun hf => ?_)
    · refine z_iload 1 dX12_takesOf_68 rfl ?_
      refine z_lv [] [] rfl ?_
      exact zb_X12_takesOf_70 hE hf
    · refine z_iload 1 dX12_takesOf_61 rfl ?_
      refine z_iconst 2 2 dX12_takesOf_63 (by decide) ?_
      refine z_iadd dX12_takesOf_64 ?_
      refine z_goto 70 dX12_takesOf_65 (by decide) ?_
      refine z_lv [] [] rfl ?_
      exact zb_X12_takesOf_70 hE hf
  · refine z_iload 1 dX12_takesOf_49 rfl ?_
    refine z_iconst 1 1 dX12_takesOf_51 (by decide) ?_
    refine z_iadd dX12_takesOf_52 ?_
    refine z_goto 70 dX12_takesOf_53 (by decide) ?_
    refine z_lv [] [] rfl ?_
    exact zb_X12_takesOf_70 hE hf
set_option maxRecDepth 20000 in
theorem zm_X12_takesOf {N : Nat} {sh : Sh} {d : Dt} {l0 : Nat} {l1 : Int32} {l2 : Int32} {r : Int32 × Dt} (hf : f_X12_takesOf N sh l0 l1 l2 d = some r) : isO sh l0 12 ∧ ∀ (l : Launch) (G : GG), Mt l G yX12_takesOf cX12_takesOf 5 (some .int) 2 [.ref l0, .int l1, .int l2] (sh, d) (some (.int r.1)) (sh, r.2) := by
  have hf0 := hf
  unfold f_X12_takesOf at hf
  refine ite_d hf (fun hO hf => ?_) (fun _ hf => ?_)
  · refine ⟨hO, fun l G => mt_of (Or.inl (by decide)) (Nat.le_of_ble_eq_true rfl) Le.rf (fun E hE => ?_)⟩
    show Z E yX12_takesOf cX12_takesOf 5 (some .int) 2 (sh, d) 0 [(0, .ref l0), (1, .int l1), (2, .int l2)] []
    refine z_iload_n 1 dX12_takesOf_0 rfl rfl ?_
    obtain ⟨v1, ev1, hf⟩ := ob hf
    refine z_cTi (As := [.int l1]) (rest := []) (zm_X12_speedOf ev1) (Or.inl rfl) mw_37_17 mw_37_18 mw_1_5 mw_37_19 yk_X12_speedOf (by decide) (by decide) rfl (Nat.le_of_ble_eq_true rfl) rfl dX12_takesOf_1 ?_
    refine z_istore_n [(3, .int v1), (0, .ref l0), (1, .int l1), (2, .int l2)] dX12_takesOf_4 rfl (by decide) rfl ?_
    refine z_iload_n 3 dX12_takesOf_5 rfl rfl ?_
    refine z_iload_n 0 dX12_takesOf_6 rfl rfl ?_
    refine z_iadd dX12_takesOf_7 ?_
    refine z_iconst 1 1 dX12_takesOf_8 (by decide) ?_
    refine z_isub dX12_takesOf_9 ?_
    refine z_iload_n 0 dX12_takesOf_10 rfl rfl ?_
    refine z_idiv hf dX12_takesOf_11  (fun v2 hf => ?_)
    refine z_istore [(4, .int v2), (3, .int v1), (0, .ref l0), (1, .int l1), (2, .int l2)] dX12_takesOf_12 (by decide) rfl ?_
    refine z_aload_n 2 dX12_takesOf_14 rfl rfl ?_
    refine z_dup dX12_takesOf_15 rfl ?_
    refine z_gI (ci := 12) (k := 4) (C := RX12) (T := TX12) (N := 32) rfl inlX12 (by decide) mw_38_11 (fun _ _ _ _ h9 => h9) hf (by decide) rfl dX12_takesOf_16  (fun v3 hf => ?_)
    refine z_iload_n 3 dX12_takesOf_19 rfl rfl ?_
    refine z_iconst 3 3 dX12_takesOf_20 (by decide) ?_
    refine z_icmp_ne 29 hf dX12_takesOf_21 (by decide) (fun hf => ?_) (fun hf => ?_)
    · refine z_iload_n 3 dX12_takesOf_29 rfl rfl ?_
      refine z_iconst 2 2 dX12_takesOf_30 (by decide) ?_
      refine z_icmp_ne 39 hf dX12_takesOf_31 (by decide) (fun hf => ?_) (fun hf => ?_)
      · refine z_iconst 1 1 dX12_takesOf_39 (by decide) ?_
        refine z_lv [(1, .int l1), (4, .int v2)] [3, 0] rfl ?_
        exact zb_X12_takesOf_40 hE hf
      · refine z_bipush 21 21 dX12_takesOf_34 (by decide) ?_
        refine z_goto 40 dX12_takesOf_36 (by decide) ?_
        refine z_lv [(1, .int l1), (4, .int v2)] [3, 0] rfl ?_
        exact zb_X12_takesOf_40 hE hf
    · refine z_bipush 11 11 dX12_takesOf_24 (by decide) ?_
      refine z_goto 40 dX12_takesOf_26 (by decide) ?_
      refine z_lv [(1, .int l1), (4, .int v2)] [3, 0] rfl ?_
      exact zb_X12_takesOf_40 hE hf
  · cases hf
set_option maxRecDepth 20000 in
theorem zb_X12_takes_65 {N : Nat} {sh : Sh} {r : Int32 × Dt} {E : EV} (hE : TG E (some (.int r.1)) (sh, r.2))  {t0 : Int32} {d : Dt} (hf : f_X12_takes_65 N sh t0 d = some r) : Z E yX12_takes cX12_takes 5 (some .int) 4 (sh, d) 65 [] [.int t0] := by
  unfold f_X12_takes_65 at hf
  cases hf
  exact z_ireturn hE rfl dX12_takes_65
set_option maxRecDepth 20000 in
theorem zm_X12_takes {N : Nat} {sh : Sh} {d : Dt} {l0 : Nat} {l1 : Int32} {l2 : Int32} {r : Int32 × Dt} (hf : f_X12_takes N sh l0 l1 l2 d = some r) : isO sh l0 12 ∧ ∀ (l : Launch) (G : GG), Mt l G yX12_takes cX12_takes 5 (some .int) 4 [.ref l0, .int l1, .int l2] (sh, d) (some (.int r.1)) (sh, r.2) := by
  have hf0 := hf
  unfold f_X12_takes at hf
  refine ite_d hf (fun hO hf => ?_) (fun _ hf => ?_)
  · refine ⟨hO, fun l G => mt_of (Or.inl (by decide)) (Nat.le_of_ble_eq_true rfl) Le.rf (fun E hE => ?_)⟩
    show Z E yX12_takes cX12_takes 5 (some .int) 4 (sh, d) 0 [(0, .ref l0), (1, .int l1), (2, .int l2)] []
    refine z_aload_n 0 dX12_takes_0 rfl rfl ?_
    refine z_iload_n 1 dX12_takes_1 rfl rfl ?_
    obtain ⟨v1, ev1, hf⟩ := ob hf
    refine z_cVi (ci := 12) (T := TX12) (N := 32) (As := [.int l1]) (rest := []) (zm_X12_kindOf ev1).2 (zm_X12_kindOf ev1).1 (by decide) rfl (Or.inl rfl) mw_37_9 mw_37_10 mw_37_11 mw_1_5 mw_37_12 yk_X12_kindOf (by decide) (by decide) rfl (Nat.le_of_ble_eq_true rfl) rfl dX12_takes_2 ?_
    refine z_iconst 4 4 dX12_takes_5 (by decide) ?_
    refine z_icmp_eq 20 hf dX12_takes_6 (by decide) (fun hf => ?_) (fun hf => ?_)
    · refine z_aload_n 0 dX12_takes_20 rfl rfl ?_
      refine z_dup dX12_takes_21 rfl ?_
      refine z_gI (ci := 12) (k := 4) (C := RX12) (T := TX12) (N := 32) rfl inlX12 (by decide) mw_38_11 (fun _ _ _ _ h9 => h9) hf (by decide) rfl dX12_takes_22  (fun v2 hf => ?_)
      refine z_iconst 5 5 dX12_takes_25 (by decide) ?_
      refine z_iadd dX12_takes_26 ?_
      refine z_pI (ci := 12) (k := 4) (C := RX12) (T := TX12) (N := 32) rfl inlX12 (by decide) mw_38_11 (fun _ _ _ _ h9 => h9) tyX12 tyX12_ok nmX12 rfl hf (Or.inl (by decide)) rfl rfl rfl dX12_takes_27  (fun d3 hf => ?_)
      refine z_aload_n 0 dX12_takes_30 rfl rfl ?_
      refine z_aload_n 0 dX12_takes_31 rfl rfl ?_
      refine z_iload_n 1 dX12_takes_32 rfl rfl ?_
      obtain ⟨v4, ev4, hf⟩ := ob hf
      refine z_cVi (ci := 12) (T := TX12) (N := 32) (As := [.int l1]) (rest := [.ref l0]) (zm_X12_first ev4).2 (zm_X12_first ev4).1 (by decide) rfl (Or.inl rfl) mw_37_13 mw_37_14 mw_37_15 mw_1_5 mw_37_16 yk_X12_first (by decide) (by decide) rfl (Nat.le_of_ble_eq_true rfl) rfl dX12_takes_33 ?_
      refine z_iload_n 2 dX12_takes_36 rfl rfl ?_
      obtain ⟨v5, ev5, hf⟩ := ob hf
      refine z_cVi (ci := 12) (T := TX12) (N := 32) (As := [.int v4, .int l2]) (rest := []) (zm_X12_takesOf ev5).2 (zm_X12_takesOf ev5).1 (by decide) rfl (Or.inl rfl) mw_38_12 mw_38_13 mw_38_14 mw_1_5 mw_38_15 yk_X12_takesOf (by decide) (by decide) rfl (Nat.le_of_ble_eq_true rfl) rfl dX12_takes_37 ?_
      refine z_istore_n [(3, .int v5.1), (0, .ref l0), (1, .int l1), (2, .int l2)] dX12_takes_40 rfl (by decide) rfl ?_
      refine z_aload_n 1 dX12_takes_41 rfl rfl ?_
      refine z_aload_n 1 dX12_takes_42 rfl rfl ?_
      refine z_iload_n 2 dX12_takes_43 rfl rfl ?_
      obtain ⟨v6, ev6, hf⟩ := ob hf
      refine z_cVi (ci := 12) (T := TX12) (N := 32) (As := [.int l1]) (rest := [.ref l0]) (zm_X12_second ev6).2 (zm_X12_second ev6).1 (by decide) rfl (Or.inl rfl) mw_37_20 mw_37_21 mw_37_22 mw_1_5 mw_37_23 yk_X12_second (by decide) (by decide) rfl (Nat.le_of_ble_eq_true rfl) rfl dX12_takes_44 ?_
      refine z_iload_n 3 dX12_takes_47 rfl rfl ?_
      obtain ⟨v7, ev7, hf⟩ := ob hf
      refine z_cVi (ci := 12) (T := TX12) (N := 32) (As := [.int v6, .int l2]) (rest := []) (zm_X12_takesOf ev7).2 (zm_X12_takesOf ev7).1 (by decide) rfl (Or.inl rfl) mw_38_12 mw_38_13 mw_38_14 mw_1_5 mw_38_15 yk_X12_takesOf (by decide) (by decide) rfl (Nat.le_of_ble_eq_true rfl) rfl dX12_takes_48 ?_
      refine z_istore [(4, .int v7.1), (3, .int v5.1), (0, .ref l0), (1, .int l1), (2, .int l2)] dX12_takes_51 (by decide) rfl ?_
      refine z_iload_n 1 dX12_takes_53 rfl rfl ?_
      refine z_iload 0 dX12_takes_54 rfl ?_
      refine z_icmp_le 63 hf dX12_takes_56 (by decide) (fun hf => ?_) (fun hf => ?_)
      · refine z_iload 0 dX12_takes_63 rfl ?_
        refine z_lv [] [] rfl ?_
        exact zb_X12_takes_65 hE hf
      · refine z_iload_n 1 dX12_takes_59 rfl rfl ?_
        refine z_goto 65 dX12_takes_60 (by decide) ?_
        refine z_lv [] [] rfl ?_
        exact zb_X12_takes_65 hE hf
    · refine z_aload_n 0 dX12_takes_9 rfl rfl ?_
      refine z_aload_n 0 dX12_takes_10 rfl rfl ?_
      refine z_iload_n 1 dX12_takes_11 rfl rfl ?_
      obtain ⟨v8, ev8, hf⟩ := ob hf
      refine z_cVi (ci := 12) (T := TX12) (N := 32) (As := [.int l1]) (rest := [.ref l0]) (zm_X12_kindOf ev8).2 (zm_X12_kindOf ev8).1 (by decide) rfl (Or.inl rfl) mw_37_9 mw_37_10 mw_37_11 mw_1_5 mw_37_12 yk_X12_kindOf (by decide) (by decide) rfl (Nat.le_of_ble_eq_true rfl) rfl dX12_takes_12 ?_
      refine z_iload_n 2 dX12_takes_15 rfl rfl ?_
      obtain ⟨v9, ev9, hf⟩ := ob hf
      refine z_cVi (ci := 12) (T := TX12) (N := 32) (As := [.int v8, .int l2]) (rest := []) (zm_X12_takesOf ev9).2 (zm_X12_takesOf ev9).1 (by decide) rfl (Or.inl rfl) mw_38_12 mw_38_13 mw_38_14 mw_1_5 mw_38_15 yk_X12_takesOf (by decide) (by decide) rfl (Nat.le_of_ble_eq_true rfl) rfl dX12_takes_16 ?_
      cases hf
      exact z_ireturn hE rfl dX12_takes_19
  · cases hf
set_option maxRecDepth 20000 in
theorem zb_X12_passes_88 {N : Nat} {sh : Sh} {r : Int32 × Dt} {E : EV} (hE : TG E (some (.int r.1)) (sh, r.2))  {t0 : Int32} {d : Dt} (hf : f_X12_passes_88 N sh t0 d = some r) : Z E yX12_passes cX12_passes 5 (some .int) 5 (sh, d) 88 [] [.int t0] := by
  unfold f_X12_passes_88 at hf
  cases hf
  exact z_ireturn hE rfl dX12_passes_88
set_option maxRecDepth 20000 in
theorem zb_X12_passes_44 {N : Nat} {sh : Sh} {r : Int32 × Dt} {E : EV} (hE : TG E (some (.int r.1)) (sh, r.2))  {l2 : Int32} {l3 : Int32} {l4 : Int32} {t0 : Nat} {t1 : Int32} {t2 : Int32} {d : Dt} (hf : f_X12_passes_44 N sh l2 l3 l4 t0 t1 t2 d = some r) : Z E yX12_passes cX12_passes 5 (some .int) 5 (sh, d) 44 [(2, .int l2), (3, .int l3), (4, .int l4)] [.int t2, .int t1, .ref t0] := by
  unfold f_X12_passes_44 at hf
  refine z_iadd dX12_passes_44 ?_
  refine z_pI (ci := 12) (k := 4) (C := RX12) (T := TX12) (N := 32) rfl inlX12 (by decide) mw_38_11 (fun _ _ _ _ h9 => h9) tyX12 tyX12_ok nmX12 rfl hf (Or.inl (by decide)) rfl rfl rfl dX12_passes_45  (fun d4 hf => ?_)
  refine z_iload_n 0 dX12_passes_48 rfl rfl ?_
  refine z_iload_n 1 dX12_passes_49 rfl rfl ?_
  refine z_icmp_gt 55 hf dX12_passes_50 (by decide) (fun hf => ?_) (fun hf => ?_)
  · refine z_iload 2 dX12_passes_55 rfl ?_
    refine z_iconst 1 1 dX12_passes_57 (by decide) ?_
    refine z_icmp_ne 76 hf dX12_passes_58 (by decide) (fun hf => ?_) (fun hf => ?_)
    · refine z_iload_n 0 dX12_passes_76 rfl rfl ?_
      refine z_iconst 2 2 dX12_passes_77 (by decide) ?_
      refine z_iload_n 1 dX12_passes_78 rfl rfl ?_
      refine z_imul dX12_passes_79 ?_
      refine z_icmp_gt 87 hf dX12_passes_80 (by decide) (fun hf => ?_) (fun hf => ?_)
      · refine z_iconst 0 0 dX12_passes_87 (by decide) ?_
        refine z_lv [] [] rfl ?_
        exact zb_X12_passes_88 hE hf
      · refine z_iconst 2 2 dX12_passes_83 (by decide) ?_
        refine z_goto 88 dX12_passes_84 (by decide) ?_
        refine z_lv [] [] rfl ?_
        exact zb_X12_passes_88 hE hf
    · refine z_iload_n 0 dX12_passes_61 rfl rfl ?_
      refine z_iconst 3 3 dX12_passes_62 (by decide) ?_
      refine z_iload_n 1 dX12_passes_63 rfl rfl ?_
      refine z_imul dX12_passes_64 ?_
      refine z_icmp_gt 72 hf dX12_passes_65 (by decide) (fun hf => ?_) (fun hf => ?_)
      · refine z_iconst 0 0 dX12_passes_72 (by decide) ?_
        refine z_goto 88 dX12_passes_73 (by decide) ?_
        refine z_lv [] [] rfl ?_
        exact zb_X12_passes_88 hE hf
      · refine z_iconst 3 3 dX12_passes_68 (by decide) ?_
        refine z_goto 88 dX12_passes_69 (by decide) ?_
        refine z_lv [] [] rfl ?_
        exact zb_X12_passes_88 hE hf
  · refine z_iconst 1 1 dX12_passes_53 (by decide) ?_
    cases hf
    exact z_ireturn hE rfl dX12_passes_54
set_option maxRecDepth 20000 in
theorem zm_X12_passes {N : Nat} {sh : Sh} {d : Dt} {l0 : Nat} {l1 : Int32} {l2 : Int32} {r : Int32 × Dt} (hf : f_X12_passes N sh l0 l1 l2 d = some r) : isO sh l0 12 ∧ ∀ (l : Launch) (G : GG), Mt l G yX12_passes cX12_passes 5 (some .int) 5 [.ref l0, .int l1, .int l2] (sh, d) (some (.int r.1)) (sh, r.2) := by
  have hf0 := hf
  unfold f_X12_passes at hf
  refine ite_d hf (fun hO hf => ?_) (fun _ hf => ?_)
  · refine ⟨hO, fun l G => mt_of (Or.inl (by decide)) (Nat.le_of_ble_eq_true rfl) Le.rf (fun E hE => ?_)⟩
    show Z E yX12_passes cX12_passes 5 (some .int) 5 (sh, d) 0 [(0, .ref l0), (1, .int l1), (2, .int l2)] []
    refine z_aload_n 0 dX12_passes_0 rfl rfl ?_
    refine z_iload_n 1 dX12_passes_1 rfl rfl ?_
    obtain ⟨v1, ev1, hf⟩ := ob hf
    refine z_cVi (ci := 12) (T := TX12) (N := 32) (As := [.int l1]) (rest := []) (zm_X12_reach ev1).2 (zm_X12_reach ev1).1 (by decide) rfl (Or.inl rfl) mw_38_0 mw_38_1 mw_38_2 mw_1_5 mw_38_3 yk_X12_reach (by decide) (by decide) rfl (Nat.le_of_ble_eq_true rfl) rfl dX12_passes_2 ?_
    refine z_istore_n [(3, .int v1), (0, .ref l0), (1, .int l1), (2, .int l2)] dX12_passes_5 rfl (by decide) rfl ?_
    refine z_aload_n 1 dX12_passes_6 rfl rfl ?_
    refine z_iload_n 2 dX12_passes_7 rfl rfl ?_
    obtain ⟨v2, ev2, hf⟩ := ob hf
    refine z_cVi (ci := 12) (T := TX12) (N := 32) (As := [.int l1]) (rest := []) (zm_X12_kindOf ev2).2 (zm_X12_kindOf ev2).1 (by decide) rfl (Or.inl rfl) mw_37_9 mw_37_10 mw_37_11 mw_1_5 mw_37_12 yk_X12_kindOf (by decide) (by decide) rfl (Nat.le_of_ble_eq_true rfl) rfl dX12_passes_8 ?_
    refine z_istore [(4, .int v2), (3, .int v1), (0, .ref l0), (1, .int l1), (2, .int l2)] dX12_passes_11 (by decide) rfl ?_
    refine z_aload_n 2 dX12_passes_13 rfl rfl ?_
    refine z_dup dX12_passes_14 rfl ?_
    refine z_gI (ci := 12) (k := 4) (C := RX12) (T := TX12) (N := 32) rfl inlX12 (by decide) mw_38_11 (fun _ _ _ _ h9 => h9) hf (by decide) rfl dX12_passes_15  (fun v3 hf => ?_)
    refine z_iload 0 dX12_passes_18 rfl ?_
    refine z_iconst 1 1 dX12_passes_20 (by decide) ?_
    refine z_icmp_ne 30 hf dX12_passes_21 (by decide) (fun hf => ?_) (fun hf => ?_)
    · refine z_iload 0 dX12_passes_30 rfl ?_
      refine z_iconst 4 4 dX12_passes_32 (by decide) ?_
      refine z_icmp_ne 42 hf dX12_passes_33 (by decide) (fun hf => ?_) (fun hf => ?_)
      · refine z_bipush 100 100 dX12_passes_42 (by decide) ?_
        refine z_lv [(2, .int l2), (3, .int v1), (4, .int v2)] [4, 1, 0] rfl ?_
        exact zb_X12_passes_44 hE hf
      · refine z_sipush 10000 10000 dX12_passes_36 (by decide) ?_
        refine z_goto 44 dX12_passes_39 (by decide) ?_
        refine z_lv [(2, .int l2), (3, .int v1), (4, .int v2)] [4, 1, 0] rfl ?_
        exact zb_X12_passes_44 hE hf
    · refine z_sipush 1000 1000 dX12_passes_24 (by decide) ?_
      refine z_goto 44 dX12_passes_27 (by decide) ?_
      refine z_lv [(2, .int l2), (3, .int v1), (4, .int v2)] [4, 1, 0] rfl ?_
      exact zb_X12_passes_44 hE hf
  · cases hf
set_option maxRecDepth 20000 in
theorem zb_X12_asks_25 {N : Nat} {sh : Sh} {r : Int32 × Dt} {E : EV} (hE : TG E (some (.int r.1)) (sh, r.2))  {l0 : Nat} {d : Dt} (hf : f_X12_asks_25 N sh l0 d = some r) : Z E yX12_asks cX12_asks 5 (some .int) 6 (sh, d) 25 [(0, .ref l0)] [] := by
  unfold f_X12_asks_25 at hf
  refine z_aload_n 0 dX12_asks_25 rfl rfl ?_
  refine z_bipush (-2) (-2) dX12_asks_26 (by decide) ?_
  obtain ⟨v26, ev26, hf⟩ := ob hf
  refine z_cVi (ci := 12) (T := TX12) (N := 32) (As := [.int (-2 : Int32)]) (rest := []) (zm_X12_refuses ev26).2 (zm_X12_refuses ev26).1 (by decide) rfl (Or.inl rfl) mw_11_14 mw_11_15 mw_11_16 mw_1_5 mw_11_17 yk_X12_refuses (by decide) (by decide) rfl (Nat.le_of_ble_eq_true rfl) rfl dX12_asks_28 ?_
  cases hf
  exact z_ireturn hE rfl dX12_asks_31
set_option maxRecDepth 20000 in
theorem zb_X12_asks_166 {N : Nat} {sh : Sh} {r : Int32 × Dt} {E : EV} (hE : TG E (some (.int r.1)) (sh, r.2))  {t0 : Int32} {d : Dt} (hf : f_X12_asks_166 N sh t0 d = some r) : Z E yX12_asks cX12_asks 5 (some .int) 6 (sh, d) 166 [] [.int t0] := by
  unfold f_X12_asks_166 at hf
  cases hf
  exact z_ireturn hE rfl dX12_asks_166
set_option maxRecDepth 20000 in
theorem zm_X12_asks {N : Nat} {sh : Sh} {d : Dt} {l0 : Nat} {l1 : Int32} {l2 : Int32} {l3 : Int32} {r : Int32 × Dt} (hf : f_X12_asks N sh l0 l1 l2 l3 d = some r) : isO sh l0 12 ∧ ∀ (l : Launch) (G : GG), Mt l G yX12_asks cX12_asks 5 (some .int) 6 [.ref l0, .int l1, .int l2, .int l3] (sh, d) (some (.int r.1)) (sh, r.2) := by
  have hf0 := hf
  unfold f_X12_asks at hf
  refine ite_d hf (fun hO hf => ?_) (fun _ hf => ?_)
  · refine ⟨hO, fun l G => mt_of (Or.inl (by decide)) (Nat.le_of_ble_eq_true rfl) Le.rf (fun E hE => ?_)⟩
    show Z E yX12_asks cX12_asks 5 (some .int) 6 (sh, d) 0 [(0, .ref l0), (1, .int l1), (2, .int l2), (3, .int l3)] []
    refine z_aload_n 0 dX12_asks_0 rfl rfl ?_
    refine z_iload_n 1 dX12_asks_1 rfl rfl ?_
    obtain ⟨v1, ev1, hf⟩ := ob hf
    refine z_cVi (ci := 12) (T := TX12) (N := 32) (As := [.int l1]) (rest := []) (zm_X12_isPlough ev1).2 (zm_X12_isPlough ev1).1 (by decide) rfl (Or.inl rfl) mw_32_23 mw_33_0 mw_33_1 mw_1_5 mw_33_2 yk_X12_isPlough (by decide) (by decide) rfl (Nat.le_of_ble_eq_true rfl) rfl dX12_asks_2 ?_
    refine z_if_eq 25 hf dX12_asks_5 (by decide) (fun hf => ?_) (fun hf => ?_)
    · refine z_lv [(0, .ref l0)] [0] rfl ?_
      exact zb_X12_asks_25 hE hf
    · refine z_aload_n 0 dX12_asks_8 rfl rfl ?_
      refine z_iload_n 2 dX12_asks_9 rfl rfl ?_
      obtain ⟨v2, ev2, hf⟩ := ob hf
      refine z_cVi (ci := 12) (T := TX12) (N := 32) (As := [.int l2]) (rest := []) (zm_X12_isStreet ev2).2 (zm_X12_isStreet ev2).1 (by decide) rfl (Or.inl rfl) mw_14_11 mw_14_12 mw_14_13 mw_1_5 mw_14_14 yk_X12_isStreet (by decide) (by decide) rfl (Nat.le_of_ble_eq_true rfl) rfl dX12_asks_10 ?_
      refine z_if_eq 25 hf dX12_asks_13 (by decide) (fun hf => ?_) (fun hf => ?_)
      · refine z_lv [(0, .ref l0)] [0] rfl ?_
        exact zb_X12_asks_25 hE hf
      · refine z_iload_n 3 dX12_asks_16 rfl rfl ?_
        refine z_iconst 0 0 dX12_asks_17 (by decide) ?_
        refine z_iconst 3 3 dX12_asks_18 (by decide) ?_
        obtain ⟨v3, ev3, hf⟩ := ob hf
        refine z_cTi (As := [.int l3, .int (0 : Int32), .int (3 : Int32)]) (rest := []) (zm_X12_in ev3) (Or.inl rfl) mw_11_11 mw_11_12 mw_1_5 mw_11_13 yk_X12_in (by decide) (by decide) rfl (Nat.le_of_ble_eq_true rfl) rfl dX12_asks_19 ?_
        refine z_if_ne 32 hf dX12_asks_22 (by decide) (fun hf => ?_) (fun hf => ?_)
        · refine z_aload_n 0 dX12_asks_32 rfl rfl ?_
          refine z_gP (ci := 12) (k := 0) (C := RX12) (T := TX12) (N := 32) rfl inlX12 (by decide) mw_6_19 (fun _ _ _ _ h9 => h9) hf (by decide) rfl dX12_asks_33  (fun v4 hf => ?_)
          refine z_aload_n 0 dX12_asks_36 rfl rfl ?_
          refine z_iload_n 1 dX12_asks_37 rfl rfl ?_
          obtain ⟨v5, ev5, hf⟩ := ob hf
          refine z_cVi (ci := 12) (T := TX12) (N := 32) (As := [.int l1]) (rest := [.ref v4]) (zm_X12_pl ev5).2 (zm_X12_pl ev5).1 (by decide) rfl (Or.inl rfl) mw_31_6 mw_31_7 mw_31_8 mw_1_5 mw_31_9 yk_X12_pl (by decide) (by decide) rfl (Nat.le_of_ble_eq_true rfl) rfl dX12_asks_38 ?_
          refine z_iconst 2 2 dX12_asks_41 (by decide) ?_
          refine z_iadd dX12_asks_42 ?_
          refine z_aI hf dX12_asks_43  (fun v6 hf => ?_)
          refine z_iconst 1 1 dX12_asks_44 (by decide) ?_
          refine z_icmp_ne 55 hf dX12_asks_45 (by decide) (fun hf => ?_) (fun hf => ?_)
          · refine z_iload_n 3 dX12_asks_55 rfl rfl ?_
            refine z_tabc (v := 0) 28 84 hf dX12_asks_56 (by decide) (by decide) rfl (by decide) (fun hf => ?_) (fun n9 hf => ?_)
            · refine z_aload_n 0 dX12_asks_84 rfl rfl ?_
              refine z_aload_n 0 dX12_asks_85 rfl rfl ?_
              refine z_iload_n 1 dX12_asks_86 rfl rfl ?_
              obtain ⟨v7, ev7, hf⟩ := ob hf
              refine z_cVi (ci := 12) (T := TX12) (N := 32) (As := [.int l1]) (rest := [.ref l0]) (zm_X12_speed ev7).2 (zm_X12_speed ev7).1 (by decide) rfl (Or.inl rfl) mw_37_5 mw_37_6 mw_37_7 mw_1_5 mw_37_8 yk_X12_speed (by decide) (by decide) rfl (Nat.le_of_ble_eq_true rfl) rfl dX12_asks_87 ?_
              obtain ⟨v8, ev8, hf⟩ := ob hf
              refine z_cVi (ci := 12) (T := TX12) (N := 32) (As := [.int v7]) (rest := []) (zm_X12_says ev8).2 (zm_X12_says ev8).1 (by decide) rfl (Or.inl rfl) mw_12_4 mw_12_5 mw_12_6 mw_1_5 mw_12_7 yk_X12_says (by decide) (by decide) rfl (Nat.le_of_ble_eq_true rfl) rfl dX12_asks_90 ?_
              cases hf
              exact z_ireturn hE rfl dX12_asks_93
            refine z_tabc (v := 1) 38 94 hf dX12_asks_56 (by decide) (by decide) rfl (by decide) (fun hf => ?_) (fun n12 hf => ?_)
            · refine z_aload_n 0 dX12_asks_94 rfl rfl ?_
              refine z_aload_n 0 dX12_asks_95 rfl rfl ?_
              refine z_iload_n 1 dX12_asks_96 rfl rfl ?_
              obtain ⟨v10, ev10, hf⟩ := ob hf
              refine z_cVi (ci := 12) (T := TX12) (N := 32) (As := [.int l1]) (rest := [.ref l0]) (zm_X12_reach ev10).2 (zm_X12_reach ev10).1 (by decide) rfl (Or.inl rfl) mw_38_0 mw_38_1 mw_38_2 mw_1_5 mw_38_3 yk_X12_reach (by decide) (by decide) rfl (Nat.le_of_ble_eq_true rfl) rfl dX12_asks_97 ?_
              obtain ⟨v11, ev11, hf⟩ := ob hf
              refine z_cVi (ci := 12) (T := TX12) (N := 32) (As := [.int v10]) (rest := []) (zm_X12_says ev11).2 (zm_X12_says ev11).1 (by decide) rfl (Or.inl rfl) mw_12_4 mw_12_5 mw_12_6 mw_1_5 mw_12_7 yk_X12_says (by decide) (by decide) rfl (Nat.le_of_ble_eq_true rfl) rfl dX12_asks_100 ?_
              cases hf
              exact z_ireturn hE rfl dX12_asks_103
            refine z_tabc (v := 2) 48 104 hf dX12_asks_56 (by decide) (by decide) rfl (by decide) (fun hf => ?_) (fun n18 hf => ?_)
            · refine z_aload_n 0 dX12_asks_104 rfl rfl ?_
              refine z_aload_n 0 dX12_asks_105 rfl rfl ?_
              refine z_iload_n 1 dX12_asks_106 rfl rfl ?_
              refine z_aload_n 0 dX12_asks_107 rfl rfl ?_
              refine z_gP (ci := 12) (k := 0) (C := RX12) (T := TX12) (N := 32) rfl inlX12 (by decide) mw_6_19 (fun _ _ _ _ h9 => h9) hf (by decide) rfl dX12_asks_108  (fun v13 hf => ?_)
              refine z_aload_n 0 dX12_asks_111 rfl rfl ?_
              refine z_iload_n 2 dX12_asks_112 rfl rfl ?_
              obtain ⟨v14, ev14, hf⟩ := ob hf
              refine z_cVi (ci := 12) (T := TX12) (N := 32) (As := [.int l2]) (rest := [.ref v13, .int l1, .ref l0, .ref l0]) (zm_X12_st ev14).2 (zm_X12_st ev14).1 (by decide) rfl (Or.inl rfl) mw_13_10 mw_13_11 mw_13_12 mw_1_5 mw_13_13 yk_X12_st (by decide) (by decide) rfl (Nat.le_of_ble_eq_true rfl) rfl dX12_asks_113 ?_
              refine z_bipush 6 6 dX12_asks_116 (by decide) ?_
              refine z_iadd dX12_asks_118 ?_
              refine z_aI hf dX12_asks_119  (fun v15 hf => ?_)
              obtain ⟨v16, ev16, hf⟩ := ob hf
              refine z_cVi (ci := 12) (T := TX12) (N := 32) (As := [.int l1, .int v15]) (rest := [.ref l0]) (zm_X12_takes ev16).2 (zm_X12_takes ev16).1 (by decide) rfl (Or.inl rfl) mw_38_7 mw_38_8 mw_38_9 mw_1_5 mw_38_10 yk_X12_takes (by decide) (by decide) rfl (Nat.le_of_ble_eq_true rfl) rfl dX12_asks_120 ?_
              obtain ⟨v17, ev17, hf⟩ := ob hf
              refine z_cVi (ci := 12) (T := TX12) (N := 32) (As := [.int v16.1]) (rest := []) (zm_X12_says ev17).2 (zm_X12_says ev17).1 (by decide) rfl (Or.inl rfl) mw_12_4 mw_12_5 mw_12_6 mw_1_5 mw_12_7 yk_X12_says (by decide) (by decide) rfl (Nat.le_of_ble_eq_true rfl) rfl dX12_asks_123 ?_
              cases hf
              exact z_ireturn hE rfl dX12_asks_126
            refine z_tabd 127 dX12_asks_56 (by have qn9 := tab_out 0 (by decide) n9; have qn12 := tab_out 1 (by decide) n12; have qn18 := tab_out 2 (by decide) n18; omega) (by decide) ?_
            refine z_aload_n 0 dX12_asks_127 rfl rfl ?_
            refine z_iload_n 1 dX12_asks_128 rfl rfl ?_
            refine z_aload_n 0 dX12_asks_129 rfl rfl ?_
            refine z_gP (ci := 12) (k := 0) (C := RX12) (T := TX12) (N := 32) rfl inlX12 (by decide) mw_6_19 (fun _ _ _ _ h9 => h9) hf (by decide) rfl dX12_asks_130  (fun v19 hf => ?_)
            refine z_aload_n 0 dX12_asks_133 rfl rfl ?_
            refine z_iload_n 2 dX12_asks_134 rfl rfl ?_
            obtain ⟨v20, ev20, hf⟩ := ob hf
            refine z_cVi (ci := 12) (T := TX12) (N := 32) (As := [.int l2]) (rest := [.ref v19, .int l1, .ref l0]) (zm_X12_st ev20).2 (zm_X12_st ev20).1 (by decide) rfl (Or.inl rfl) mw_13_10 mw_13_11 mw_13_12 mw_1_5 mw_13_13 yk_X12_st (by decide) (by decide) rfl (Nat.le_of_ble_eq_true rfl) rfl dX12_asks_135 ?_
            refine z_iconst 0 0 dX12_asks_138 (by decide) ?_
            refine z_iadd dX12_asks_139 ?_
            refine z_aI hf dX12_asks_140  (fun v21 hf => ?_)
            obtain ⟨v22, ev22, hf⟩ := ob hf
            refine z_cVi (ci := 12) (T := TX12) (N := 32) (As := [.int l1, .int v21]) (rest := []) (zm_X12_passes ev22).2 (zm_X12_passes ev22).1 (by decide) rfl (Or.inl rfl) mw_38_16 mw_38_17 mw_38_18 mw_1_5 mw_38_19 yk_X12_passes (by decide) (by decide) rfl (Nat.le_of_ble_eq_true rfl) rfl dX12_asks_141 ?_
            refine z_istore [(4, .int v22.1), (0, .ref l0), (1, .int l1), (2, .int l2), (3, .int l3)] dX12_asks_144 (by decide) rfl ?_
            refine z_iload 0 dX12_asks_146 rfl ?_
            refine z_if_ne 160 hf dX12_asks_148 (by decide) (fun hf => ?_) (fun hf => ?_)
            · refine z_aload_n 1 dX12_asks_160 rfl rfl ?_
              refine z_iload 0 dX12_asks_161 rfl ?_
              obtain ⟨v23, ev23, hf⟩ := ob hf
              refine z_cVi (ci := 12) (T := TX12) (N := 32) (As := [.int v22.1]) (rest := []) (zm_X12_says ev23).2 (zm_X12_says ev23).1 (by decide) rfl (Or.inl rfl) mw_12_4 mw_12_5 mw_12_6 mw_1_5 mw_12_7 yk_X12_says (by decide) (by decide) rfl (Nat.le_of_ble_eq_true rfl) rfl dX12_asks_163 ?_
              refine z_lv [] [] rfl ?_
              exact zb_X12_asks_166 hE hf
            · refine z_aload_n 1 dX12_asks_151 rfl rfl ?_
              refine z_bipush (-9) (-9) dX12_asks_152 (by decide) ?_
              obtain ⟨v24, ev24, hf⟩ := ob hf
              refine z_cVi (ci := 12) (T := TX12) (N := 32) (As := [.int (-9 : Int32)]) (rest := []) (zm_X12_refuses ev24).2 (zm_X12_refuses ev24).1 (by decide) rfl (Or.inl rfl) mw_11_14 mw_11_15 mw_11_16 mw_1_5 mw_11_17 yk_X12_refuses (by decide) (by decide) rfl (Nat.le_of_ble_eq_true rfl) rfl dX12_asks_154 ?_
              refine z_goto 166 dX12_asks_157 (by decide) ?_
              refine z_lv [] [] rfl ?_
              exact zb_X12_asks_166 hE hf
          · refine z_aload_n 0 dX12_asks_48 rfl rfl ?_
            refine z_bipush (-4) (-4) dX12_asks_49 (by decide) ?_
            obtain ⟨v25, ev25, hf⟩ := ob hf
            refine z_cVi (ci := 12) (T := TX12) (N := 32) (As := [.int (-4 : Int32)]) (rest := []) (zm_X12_refuses ev25).2 (zm_X12_refuses ev25).1 (by decide) rfl (Or.inl rfl) mw_11_14 mw_11_15 mw_11_16 mw_1_5 mw_11_17 yk_X12_refuses (by decide) (by decide) rfl (Nat.le_of_ble_eq_true rfl) rfl dX12_asks_51 ?_
            cases hf
            exact z_ireturn hE rfl dX12_asks_54
        · refine z_lv [(0, .ref l0)] [0] rfl ?_
          exact zb_X12_asks_25 hE hf
  · cases hf
set_option maxRecDepth 20000 in
theorem zb_X12_to_64 {N : Nat} {sh : Sh} {d : Dt} {r : Int32} {E : EV} (hE : TG E (some (.int r)) (sh, d))  {t0 : Int32} (hf : f_X12_to_64 N sh t0 d = some r) : Z E yX12_to cX12_to 3 (some .int) 2 (sh, d) 64 [] [.int t0] := by
  unfold f_X12_to_64 at hf
  cases hf
  exact z_ireturn hE rfl dX12_to_64
set_option maxRecDepth 20000 in
theorem zm_X12_to {N : Nat} {sh : Sh} {d : Dt} {l0 : Nat} {l1 : Int32} {r : Int32} (hf : f_X12_to N sh l0 l1 d = some r) : isO sh l0 12 ∧ ∀ (l : Launch) (G : GG), Mt l G yX12_to cX12_to 3 (some .int) 2 [.ref l0, .int l1] (sh, d) (some (.int r)) (sh, d) := by
  have hf0 := hf
  unfold f_X12_to at hf
  refine ite_d hf (fun hO hf => ?_) (fun _ hf => ?_)
  · refine ⟨hO, fun l G => mt_of (Or.inl (by decide)) (Nat.le_of_ble_eq_true rfl) Le.rf (fun E hE => ?_)⟩
    show Z E yX12_to cX12_to 3 (some .int) 2 (sh, d) 0 [(0, .ref l0), (1, .int l1)] []
    refine z_aload_n 0 dX12_to_0 rfl rfl ?_
    refine z_aload_n 0 dX12_to_1 rfl rfl ?_
    refine z_gP (ci := 12) (k := 0) (C := RX12) (T := TX12) (N := 32) rfl inlX12 (by decide) mw_6_19 (fun _ _ _ _ h9 => h9) hf (by decide) rfl dX12_to_2  (fun v1 hf => ?_)
    refine z_sipush 9642 9642 dX12_to_5 (by decide) ?_
    refine z_iconst 3 3 dX12_to_8 (by decide) ?_
    refine z_iload_n 1 dX12_to_9 rfl rfl ?_
    refine z_imul dX12_to_10 ?_
    refine z_iadd dX12_to_11 ?_
    refine z_aI hf dX12_to_12  (fun v2 hf => ?_)
    obtain ⟨v3, ev3, hf⟩ := ob hf
    refine z_cVi (ci := 12) (T := TX12) (N := 32) (As := [.int v2]) (rest := []) (zm_X12_st ev3).2 (zm_X12_st ev3).1 (by decide) rfl (Or.inl rfl) mw_13_10 mw_13_11 mw_13_12 mw_1_5 mw_13_13 yk_X12_st (by decide) (by decide) rfl (Nat.le_of_ble_eq_true rfl) rfl dX12_to_13 ?_
    refine z_istore_n [(2, .int v3), (0, .ref l0), (1, .int l1)] dX12_to_16 rfl (by decide) rfl ?_
    refine z_aload_n 1 dX12_to_17 rfl rfl ?_
    refine z_gP (ci := 12) (k := 0) (C := RX12) (T := TX12) (N := 32) rfl inlX12 (by decide) mw_6_19 (fun _ _ _ _ h9 => h9) hf (by decide) rfl dX12_to_18  (fun v4 hf => ?_)
    refine z_sipush 9642 9642 dX12_to_21 (by decide) ?_
    refine z_iconst 3 3 dX12_to_24 (by decide) ?_
    refine z_iload_n 2 dX12_to_25 rfl rfl ?_
    refine z_imul dX12_to_26 ?_
    refine z_iadd dX12_to_27 ?_
    refine z_iconst 1 1 dX12_to_28 (by decide) ?_
    refine z_iadd dX12_to_29 ?_
    refine z_aI hf dX12_to_30  (fun v5 hf => ?_)
    refine z_aload_n 1 dX12_to_31 rfl rfl ?_
    refine z_gP (ci := 12) (k := 0) (C := RX12) (T := TX12) (N := 32) rfl inlX12 (by decide) mw_6_19 (fun _ _ _ _ h9 => h9) hf (by decide) rfl dX12_to_32  (fun v6 hf => ?_)
    refine z_iload_n 0 dX12_to_35 rfl rfl ?_
    refine z_bipush 7 7 dX12_to_36 (by decide) ?_
    refine z_iadd dX12_to_38 ?_
    refine z_aI hf dX12_to_39  (fun v7 hf => ?_)
    refine z_icmp_ne 55 hf dX12_to_40 (by decide) (fun hf => ?_) (fun hf => ?_)
    · refine z_aload_n 1 dX12_to_55 rfl rfl ?_
      refine z_gP (ci := 12) (k := 0) (C := RX12) (T := TX12) (N := 32) rfl inlX12 (by decide) mw_6_19 (fun _ _ _ _ h9 => h9) hf (by decide) rfl dX12_to_56  (fun v8 hf => ?_)
      refine z_iload_n 0 dX12_to_59 rfl rfl ?_
      refine z_bipush 7 7 dX12_to_60 (by decide) ?_
      refine z_iadd dX12_to_62 ?_
      refine z_aI hf dX12_to_63  (fun v9 hf => ?_)
      refine z_lv [] [] rfl ?_
      exact zb_X12_to_64 hE hf
    · refine z_aload_n 1 dX12_to_43 rfl rfl ?_
      refine z_gP (ci := 12) (k := 0) (C := RX12) (T := TX12) (N := 32) rfl inlX12 (by decide) mw_6_19 (fun _ _ _ _ h9 => h9) hf (by decide) rfl dX12_to_44  (fun v10 hf => ?_)
      refine z_iload_n 0 dX12_to_47 rfl rfl ?_
      refine z_bipush 8 8 dX12_to_48 (by decide) ?_
      refine z_iadd dX12_to_50 ?_
      refine z_aI hf dX12_to_51  (fun v11 hf => ?_)
      refine z_goto 64 dX12_to_52 (by decide) ?_
      refine z_lv [] [] rfl ?_
      exact zb_X12_to_64 hE hf
  · cases hf
set_option maxRecDepth 20000 in
theorem zb_X12_driveAt_68 {N : Nat} {sh : Sh} {d : Dt} {r : Int32} {E : EV} (hE : TG E (some (.int r)) (sh, d))  {t0 : Int32} (hf : f_X12_driveAt_68 N sh t0 d = some r) : Z E yX12_driveAt cX12_driveAt 3 (some .int) 3 (sh, d) 68 [] [.int t0] := by
  unfold f_X12_driveAt_68 at hf
  cases hf
  exact z_ireturn hE rfl dX12_driveAt_68
set_option maxRecDepth 20000 in
theorem zm_X12_driveAt {N : Nat} {sh : Sh} {d : Dt} {l0 : Nat} {l1 : Int32} {l2 : Int32} {r : Int32} (hf : f_X12_driveAt N sh l0 l1 l2 d = some r) : isO sh l0 12 ∧ ∀ (l : Launch) (G : GG), Mt l G yX12_driveAt cX12_driveAt 3 (some .int) 3 [.ref l0, .int l1, .int l2] (sh, d) (some (.int r)) (sh, d) := by
  have hf0 := hf
  unfold f_X12_driveAt at hf
  refine ite_d hf (fun hO hf => ?_) (fun _ hf => ?_)
  · refine ⟨hO, fun l G => mt_of (Or.inl (by decide)) (Nat.le_of_ble_eq_true rfl) Le.rf (fun E hE => ?_)⟩
    show Z E yX12_driveAt cX12_driveAt 3 (some .int) 3 (sh, d) 0 [(0, .ref l0), (1, .int l1), (2, .int l2)] []
    refine z_iload_n 2 dX12_driveAt_0 rfl rfl ?_
    refine z_if_ne 19 hf dX12_driveAt_1 (by decide) (fun hf => ?_) (fun hf => ?_)
    · refine z_iload_n 2 dX12_driveAt_19 rfl rfl ?_
      refine z_iconst 1 1 dX12_driveAt_20 (by decide) ?_
      refine z_icmp_ne 41 hf dX12_driveAt_21 (by decide) (fun hf => ?_) (fun hf => ?_)
      · refine z_iload_n 2 dX12_driveAt_41 rfl rfl ?_
        refine z_iconst 2 2 dX12_driveAt_42 (by decide) ?_
        refine z_icmp_ne 54 hf dX12_driveAt_43 (by decide) (fun hf => ?_) (fun hf => ?_)
        · refine z_aload_n 0 dX12_driveAt_54 rfl rfl ?_
          refine z_gP (ci := 12) (k := 0) (C := RX12) (T := TX12) (N := 32) rfl inlX12 (by decide) mw_6_19 (fun _ _ _ _ h9 => h9) hf (by decide) rfl dX12_driveAt_55  (fun v1 hf => ?_)
          refine z_sipush 9642 9642 dX12_driveAt_58 (by decide) ?_
          refine z_iconst 3 3 dX12_driveAt_61 (by decide) ?_
          refine z_iload_n 1 dX12_driveAt_62 rfl rfl ?_
          refine z_imul dX12_driveAt_63 ?_
          refine z_iadd dX12_driveAt_64 ?_
          refine z_iconst 2 2 dX12_driveAt_65 (by decide) ?_
          refine z_iadd dX12_driveAt_66 ?_
          refine z_aI hf dX12_driveAt_67  (fun v2 hf => ?_)
          refine z_lv [] [] rfl ?_
          exact zb_X12_driveAt_68 hE hf
        · refine z_aload_n 0 dX12_driveAt_46 rfl rfl ?_
          refine z_iload_n 1 dX12_driveAt_47 rfl rfl ?_
          obtain ⟨v3, ev3, hf⟩ := ob hf
          refine z_cVi (ci := 12) (T := TX12) (N := 32) (As := [.int l1]) (rest := []) (zm_X12_to ev3).2 (zm_X12_to ev3).1 (by decide) rfl (Or.inl rfl) mw_51_21 mw_51_22 mw_51_23 mw_1_5 mw_52_0 yk_X12_to (by decide) (by decide) rfl (Nat.le_of_ble_eq_true rfl) rfl dX12_driveAt_48 ?_
          refine z_goto 68 dX12_driveAt_51 (by decide) ?_
          refine z_lv [] [] rfl ?_
          exact zb_X12_driveAt_68 hE hf
      · refine z_aload_n 0 dX12_driveAt_24 rfl rfl ?_
        refine z_gP (ci := 12) (k := 0) (C := RX12) (T := TX12) (N := 32) rfl inlX12 (by decide) mw_6_19 (fun _ _ _ _ h9 => h9) hf (by decide) rfl dX12_driveAt_25  (fun v4 hf => ?_)
        refine z_sipush 9642 9642 dX12_driveAt_28 (by decide) ?_
        refine z_iconst 3 3 dX12_driveAt_31 (by decide) ?_
        refine z_iload_n 1 dX12_driveAt_32 rfl rfl ?_
        refine z_imul dX12_driveAt_33 ?_
        refine z_iadd dX12_driveAt_34 ?_
        refine z_iconst 1 1 dX12_driveAt_35 (by decide) ?_
        refine z_iadd dX12_driveAt_36 ?_
        refine z_aI hf dX12_driveAt_37  (fun v5 hf => ?_)
        refine z_goto 68 dX12_driveAt_38 (by decide) ?_
        refine z_lv [] [] rfl ?_
        exact zb_X12_driveAt_68 hE hf
    · refine z_aload_n 0 dX12_driveAt_4 rfl rfl ?_
      refine z_gP (ci := 12) (k := 0) (C := RX12) (T := TX12) (N := 32) rfl inlX12 (by decide) mw_6_19 (fun _ _ _ _ h9 => h9) hf (by decide) rfl dX12_driveAt_5  (fun v6 hf => ?_)
      refine z_sipush 9642 9642 dX12_driveAt_8 (by decide) ?_
      refine z_iconst 3 3 dX12_driveAt_11 (by decide) ?_
      refine z_iload_n 1 dX12_driveAt_12 rfl rfl ?_
      refine z_imul dX12_driveAt_13 ?_
      refine z_iadd dX12_driveAt_14 ?_
      refine z_aI hf dX12_driveAt_15  (fun v7 hf => ?_)
      refine z_goto 68 dX12_driveAt_16 (by decide) ?_
      refine z_lv [] [] rfl ?_
      exact zb_X12_driveAt_68 hE hf
  · cases hf
set_option maxRecDepth 20000 in
theorem zb_X12_at_43 {N : Nat} {sh : Sh} {r : Int32 × Dt} {E : EV} (hE : TG E (some (.int r.1)) (sh, r.2))  {t0 : Nat} {t1 : Int32} {d : Dt} (hf : f_X12_at_43 N sh t0 t1 d = some r) : Z E yX12_at cX12_at 3 (some .int) 4 (sh, d) 43 [] [.int t1, .ref t0] := by
  unfold f_X12_at_43 at hf
  obtain ⟨v7, ev7, hf⟩ := ob hf
  refine z_cVi (ci := 12) (T := TX12) (N := 32) (As := [.int t1]) (rest := []) (zm_X12_says ev7).2 (zm_X12_says ev7).1 (by decide) rfl (Or.inl rfl) mw_12_4 mw_12_5 mw_12_6 mw_1_5 mw_12_7 yk_X12_says (by decide) (by decide) rfl (Nat.le_of_ble_eq_true rfl) rfl dX12_at_43 ?_
  cases hf
  exact z_ireturn hE rfl dX12_at_46
set_option maxRecDepth 20000 in
theorem zm_X12_at {N : Nat} {sh : Sh} {d : Dt} {l0 : Nat} {l1 : Int32} {l2 : Int32} {r : Int32 × Dt} (hf : f_X12_at N sh l0 l1 l2 d = some r) : isO sh l0 12 ∧ ∀ (l : Launch) (G : GG), Mt l G yX12_at cX12_at 3 (some .int) 4 [.ref l0, .int l1, .int l2] (sh, d) (some (.int r.1)) (sh, r.2) := by
  have hf0 := hf
  unfold f_X12_at at hf
  refine ite_d hf (fun hO hf => ?_) (fun _ hf => ?_)
  · refine ⟨hO, fun l G => mt_of (Or.inl (by decide)) (Nat.le_of_ble_eq_true rfl) Le.rf (fun E hE => ?_)⟩
    show Z E yX12_at cX12_at 3 (some .int) 4 (sh, d) 0 [(0, .ref l0), (1, .int l1), (2, .int l2)] []
    refine z_iload_n 2 dX12_at_0 rfl rfl ?_
    refine z_iconst 0 0 dX12_at_1 (by decide) ?_
    refine z_iconst 3 3 dX12_at_2 (by decide) ?_
    obtain ⟨v1, ev1, hf⟩ := ob hf
    refine z_cTi (As := [.int l2, .int (0 : Int32), .int (3 : Int32)]) (rest := []) (zm_X12_in ev1) (Or.inl rfl) mw_11_11 mw_11_12 mw_1_5 mw_11_13 yk_X12_in (by decide) (by decide) rfl (Nat.le_of_ble_eq_true rfl) rfl dX12_at_3 ?_
    refine z_if_ne 16 hf dX12_at_6 (by decide) (fun hf => ?_) (fun hf => ?_)
    · refine z_aload_n 0 dX12_at_16 rfl rfl ?_
      refine z_iload_n 1 dX12_at_17 rfl rfl ?_
      refine z_iconst 0 0 dX12_at_18 (by decide) ?_
      refine z_aload_n 0 dX12_at_19 rfl rfl ?_
      refine z_gP (ci := 12) (k := 0) (C := RX12) (T := TX12) (N := 32) rfl inlX12 (by decide) mw_6_19 (fun _ _ _ _ h9 => h9) hf (by decide) rfl dX12_at_20  (fun v2 hf => ?_)
      refine z_iconst 4 4 dX12_at_23 (by decide) ?_
      refine z_aI hf dX12_at_24  (fun v3 hf => ?_)
      refine z_iconst 1 1 dX12_at_25 (by decide) ?_
      refine z_isub dX12_at_26 ?_
      obtain ⟨v4, ev4, hf⟩ := ob hf
      refine z_cTi (As := [.int l1, .int (0 : Int32), .int (v3 - (1 : Int32))]) (rest := [.ref l0]) (zm_X12_in ev4) (Or.inl rfl) mw_11_11 mw_11_12 mw_1_5 mw_11_13 yk_X12_in (by decide) (by decide) rfl (Nat.le_of_ble_eq_true rfl) rfl dX12_at_27 ?_
      refine z_if_eq 42 hf dX12_at_30 (by decide) (fun hf => ?_) (fun hf => ?_)
      · refine z_iconst (-1) (-1) dX12_at_42 (by decide) ?_
        refine z_lv [] [] rfl ?_
        exact zb_X12_at_43 hE hf
      · refine z_aload_n 0 dX12_at_33 rfl rfl ?_
        refine z_iload_n 1 dX12_at_34 rfl rfl ?_
        refine z_iload_n 2 dX12_at_35 rfl rfl ?_
        obtain ⟨v5, ev5, hf⟩ := ob hf
        refine z_cVi (ci := 12) (T := TX12) (N := 32) (As := [.int l1, .int l2]) (rest := [.ref l0]) (zm_X12_driveAt ev5).2 (zm_X12_driveAt ev5).1 (by decide) rfl (Or.inl rfl) mw_51_17 mw_51_18 mw_51_19 mw_1_5 mw_51_20 yk_X12_driveAt (by decide) (by decide) rfl (Nat.le_of_ble_eq_true rfl) rfl dX12_at_36 ?_
        refine z_goto 43 dX12_at_39 (by decide) ?_
        refine z_lv [] [] rfl ?_
        exact zb_X12_at_43 hE hf
    · refine z_aload_n 0 dX12_at_9 rfl rfl ?_
      refine z_bipush (-2) (-2) dX12_at_10 (by decide) ?_
      obtain ⟨v6, ev6, hf⟩ := ob hf
      refine z_cVi (ci := 12) (T := TX12) (N := 32) (As := [.int (-2 : Int32)]) (rest := []) (zm_X12_refuses ev6).2 (zm_X12_refuses ev6).1 (by decide) rfl (Or.inl rfl) mw_11_14 mw_11_15 mw_11_16 mw_1_5 mw_11_17 yk_X12_refuses (by decide) (by decide) rfl (Nat.le_of_ble_eq_true rfl) rfl dX12_at_12 ?_
      cases hf
      exact z_ireturn hE rfl dX12_at_15
  · cases hf
set_option maxRecDepth 20000 in
theorem zb_X12_bars_39 {N : Nat} {sh : Sh} {d : Dt} {r : Int32} {E : EV} (hE : TG E (some (.int r)) (sh, d))  {t0 : Int32} (hf : f_X12_bars_39 N sh t0 d = some r) : Z E yX12_bars cX12_bars 4 (some .int) 2 (sh, d) 39 [] [.int t0] := by
  unfold f_X12_bars_39 at hf
  cases hf
  exact z_ireturn hE rfl dX12_bars_39
set_option maxRecDepth 20000 in
theorem zm_X12_bars {N : Nat} {sh : Sh} {d : Dt} {l0 : Nat} {l1 : Int32} {l2 : Int32} {r : Int32} (hf : f_X12_bars N sh l0 l1 l2 d = some r) : isO sh l0 12 ∧ ∀ (l : Launch) (G : GG), Mt l G yX12_bars cX12_bars 4 (some .int) 2 [.ref l0, .int l1, .int l2] (sh, d) (some (.int r)) (sh, d) := by
  have hf0 := hf
  unfold f_X12_bars at hf
  refine ite_d hf (fun hO hf => ?_) (fun _ hf => ?_)
  · refine ⟨hO, fun l G => mt_of (Or.inl (by decide)) (Nat.le_of_ble_eq_true rfl) Le.rf (fun E hE => ?_)⟩
    show Z E yX12_bars cX12_bars 4 (some .int) 2 (sh, d) 0 [(0, .ref l0), (1, .int l1), (2, .int l2)] []
    refine z_aload_n 0 dX12_bars_0 rfl rfl ?_
    refine z_gP (ci := 12) (k := 0) (C := RX12) (T := TX12) (N := 32) rfl inlX12 (by decide) mw_6_19 (fun _ _ _ _ h9 => h9) hf (by decide) rfl dX12_bars_1  (fun v1 hf => ?_)
    refine z_aload_n 0 dX12_bars_4 rfl rfl ?_
    refine z_iload_n 1 dX12_bars_5 rfl rfl ?_
    obtain ⟨v2, ev2, hf⟩ := ob hf
    refine z_cVi (ci := 12) (T := TX12) (N := 32) (As := [.int l1]) (rest := [.ref v1]) (zm_X12_ga ev2).2 (zm_X12_ga ev2).1 (by decide) rfl (Or.inl rfl) mw_20_8 mw_20_9 mw_20_10 mw_1_5 mw_20_11 yk_X12_ga (by decide) (by decide) rfl (Nat.le_of_ble_eq_true rfl) rfl dX12_bars_6 ?_
    refine z_iconst 2 2 dX12_bars_9 (by decide) ?_
    refine z_iadd dX12_bars_10 ?_
    refine z_aI hf dX12_bars_11  (fun v3 hf => ?_)
    refine z_istore_n [(3, .int v3), (0, .ref l0), (1, .int l1), (2, .int l2)] dX12_bars_12 rfl (by decide) rfl ?_
    refine z_iload_n 0 dX12_bars_13 rfl rfl ?_
    refine z_if_ge 22 hf dX12_bars_14 (by decide) (fun hf => ?_) (fun hf => ?_)
    · refine z_iload_n 3 dX12_bars_22 rfl rfl ?_
      refine z_iconst 0 0 dX12_bars_23 (by decide) ?_
      refine z_iload_n 0 dX12_bars_24 rfl rfl ?_
      refine z_iconst 1 1 dX12_bars_25 (by decide) ?_
      refine z_isub dX12_bars_26 ?_
      obtain ⟨v4, ev4, hf⟩ := ob hf
      refine z_cTi (As := [.int l2, .int (0 : Int32), .int (v3 - (1 : Int32))]) (rest := []) (zm_X12_in ev4) (Or.inl rfl) mw_11_11 mw_11_12 mw_1_5 mw_11_13 yk_X12_in (by decide) (by decide) rfl (Nat.le_of_ble_eq_true rfl) rfl dX12_bars_27 ?_
      refine z_if_eq 37 hf dX12_bars_30 (by decide) (fun hf => ?_) (fun hf => ?_)
      · refine z_bipush (-5) (-5) dX12_bars_37 (by decide) ?_
        refine z_lv [] [] rfl ?_
        exact zb_X12_bars_39 hE hf
      · refine z_iconst 0 0 dX12_bars_33 (by decide) ?_
        refine z_goto 39 dX12_bars_34 (by decide) ?_
        refine z_lv [] [] rfl ?_
        exact zb_X12_bars_39 hE hf
    · refine z_bipush (-4) (-4) dX12_bars_17 (by decide) ?_
      refine z_goto 39 dX12_bars_19 (by decide) ?_
      refine z_lv [] [] rfl ?_
      exact zb_X12_bars_39 hE hf
  · cases hf
set_option maxRecDepth 20000 in
theorem zb_X12_must_28 {N : Nat} {sh : Sh} {d : Dt} {r : Int32} {E : EV} (hE : TG E (some (.int r)) (sh, d))  {t0 : Int32} (hf : f_X12_must_28 N sh t0 d = some r) : Z E yX12_must cX12_must 2 (some .boolean) 3 (sh, d) 28 [] [.int t0] := by
  unfold f_X12_must_28 at hf
  obtain ⟨v5, ev5, hg⟩ := ob hf
  obtain ⟨rfl, hbv5⟩ := o_bool_spec ev5
  cases hg
  exact z_zreturn hE rfl hbv5 dX12_must_28
set_option maxRecDepth 20000 in
theorem zb_X12_must_27 {N : Nat} {sh : Sh} {d : Dt} {r : Int32} {E : EV} (hE : TG E (some (.int r)) (sh, d))   (hf : f_X12_must_27 N sh  d = some r) : Z E yX12_must cX12_must 2 (some .boolean) 3 (sh, d) 27 [] [] := by
  unfold f_X12_must_27 at hf
  refine z_iconst 0 0 dX12_must_27 (by decide) ?_
  exact zb_X12_must_28 hE hf
set_option maxRecDepth 20000 in
theorem zm_X12_must {N : Nat} {sh : Sh} {d : Dt} {l0 : Nat} {l1 : Int32} {r : Int32} (hf : f_X12_must N sh l0 l1 d = some r) : isO sh l0 12 ∧ ∀ (l : Launch) (G : GG), Mt l G yX12_must cX12_must 2 (some .boolean) 3 [.ref l0, .int l1] (sh, d) (some (.int r)) (sh, d) := by
  have hf0 := hf
  unfold f_X12_must at hf
  refine ite_d hf (fun hO hf => ?_) (fun _ hf => ?_)
  · refine ⟨hO, fun l G => mt_of (Or.inl (by decide)) (Nat.le_of_ble_eq_true rfl) Le.rf (fun E hE => ?_)⟩
    show Z E yX12_must cX12_must 2 (some .boolean) 3 (sh, d) 0 [(0, .ref l0), (1, .int l1)] []
    refine z_aload_n 0 dX12_must_0 rfl rfl ?_
    refine z_iload_n 1 dX12_must_1 rfl rfl ?_
    obtain ⟨v1, ev1, hf⟩ := ob hf
    refine z_cVi (ci := 12) (T := TX12) (N := 32) (As := [.int l1]) (rest := []) (zm_X12_isOpen ev1).2 (zm_X12_isOpen ev1).1 (by decide) rfl (Or.inl rfl) mw_18_4 mw_18_5 mw_18_6 mw_1_5 mw_18_7 yk_X12_isOpen (by decide) (by decide) rfl (Nat.le_of_ble_eq_true rfl) rfl dX12_must_2 ?_
    refine z_if_eq 27 hf dX12_must_5 (by decide) (fun hf => ?_) (fun hf => ?_)
    · refine z_lv [] [] rfl ?_
      exact zb_X12_must_27 hE hf
    · refine z_aload_n 0 dX12_must_8 rfl rfl ?_
      refine z_gP (ci := 12) (k := 0) (C := RX12) (T := TX12) (N := 32) rfl inlX12 (by decide) mw_6_19 (fun _ _ _ _ h9 => h9) hf (by decide) rfl dX12_must_9  (fun v2 hf => ?_)
      refine z_aload_n 0 dX12_must_12 rfl rfl ?_
      refine z_iload_n 1 dX12_must_13 rfl rfl ?_
      obtain ⟨v3, ev3, hf⟩ := ob hf
      refine z_cVi (ci := 12) (T := TX12) (N := 32) (As := [.int l1]) (rest := [.ref v2]) (zm_X12_st ev3).2 (zm_X12_st ev3).1 (by decide) rfl (Or.inl rfl) mw_13_10 mw_13_11 mw_13_12 mw_1_5 mw_13_13 yk_X12_st (by decide) (by decide) rfl (Nat.le_of_ble_eq_true rfl) rfl dX12_must_14 ?_
      refine z_iconst 3 3 dX12_must_17 (by decide) ?_
      refine z_iadd dX12_must_18 ?_
      refine z_aI hf dX12_must_19  (fun v4 hf => ?_)
      refine z_if_le 27 hf dX12_must_20 (by decide) (fun hf => ?_) (fun hf => ?_)
      · refine z_lv [] [] rfl ?_
        exact zb_X12_must_27 hE hf
      · refine z_iconst 1 1 dX12_must_23 (by decide) ?_
        refine z_goto 28 dX12_must_24 (by decide) ?_
        refine z_lv [] [] rfl ?_
        exact zb_X12_must_28 hE hf
  · cases hf
set_option maxRecDepth 20000 in
theorem zb_X12_beginTimes_48 {N : Nat} {sh : Sh} {r : Dt} {E : EV} (hE : TG E none (sh, r))   {d : Dt} (hf : f_X12_beginTimes_48 N sh  d = some r) : Z E yX12_beginTimes cX12_beginTimes 2 none 4 (sh, d) 48 [] [] := by
  unfold f_X12_beginTimes_48 at hf
  cases hf
  exact z_return hE rfl dX12_beginTimes_48
set_option maxRecDepth 20000 in
theorem zb_X12_beginTimes_41 {N : Nat} {sh : Sh} {k2 : Nat → Int32 → Dt → Option Dt} {r : Dt} {E : EV} (hE : TG E none (sh, r)) (hk2 : ∀ (l0 : Nat) (l1 : Int32) (d : Dt), k2 l0 l1 d = some r → Z E yX12_beginTimes cX12_beginTimes 2 none 4 (sh, d) 2 [(0, .ref l0), (1, .int l1)] []) {l0 : Nat} {l1 : Int32} {t0 : Nat} {t1 : Int32} {t2 : Int32} {d : Dt} (hf : f_X12_beginTimes_41 N sh k2 l0 l1 t0 t1 t2 d = some r) : Z E yX12_beginTimes cX12_beginTimes 2 none 4 (sh, d) 41 [(0, .ref l0), (1, .int l1)] [.int t2, .int t1, .ref t0] := by
  unfold f_X12_beginTimes_41 at hf
  refine z_sI hf dX12_beginTimes_41  (fun d8 hf => ?_)
  refine z_iinc [(1, .int (l1 + 1)), (0, .ref l0)] 1 (l1 + 1) dX12_beginTimes_42 rfl rfl (by decide) rfl ?_
  refine z_goto 2 dX12_beginTimes_45 (by decide) ?_
  refine z_lv [(0, .ref l0), (1, .int (l1 + 1))] [1, 0] rfl ?_
  exact hk2 _ _ _ hf
set_option maxRecDepth 20000 in
theorem zg_X12_beginTimes_2 {N : Nat} {sh : Sh} {r : Dt} {k2 : Nat → Int32 → Dt → Option Dt} {E : EV} (hE : TG E none (sh, r))  (hk2 : ∀ (l0 : Nat) (l1 : Int32) (d : Dt), k2 l0 l1 d = some r → Z E yX12_beginTimes cX12_beginTimes 2 none 4 (sh, d) 2 [(0, .ref l0), (1, .int l1)] []) {l0 : Nat} {l1 : Int32} {d : Dt} (hf : g_X12_beginTimes_2 N sh k2 l0 l1 d = some r) : Z E yX12_beginTimes cX12_beginTimes 2 none 4 (sh, d) 2 [(0, .ref l0), (1, .int l1)] [] := by
  unfold g_X12_beginTimes_2 at hf
  refine z_iload_n 1 dX12_beginTimes_2 rfl rfl ?_
  refine z_aload_n 0 dX12_beginTimes_3 rfl rfl ?_
  refine z_gP (ci := 12) (k := 0) (C := RX12) (T := TX12) (N := 32) rfl inlX12 (by decide) mw_6_19 (fun _ _ _ _ h9 => h9) hf (by decide) rfl dX12_beginTimes_4  (fun v1 hf => ?_)
  refine z_iconst 1 1 dX12_beginTimes_7 (by decide) ?_
  refine z_aI hf dX12_beginTimes_8  (fun v2 hf => ?_)
  refine z_icmp_ge 48 hf dX12_beginTimes_9 (by decide) (fun hf => ?_) (fun hf => ?_)
  · refine z_lv [] [] rfl ?_
    exact zb_X12_beginTimes_48 hE hf
  · refine z_aload_n 0 dX12_beginTimes_12 rfl rfl ?_
    refine z_gP (ci := 12) (k := 14) (C := RX12) (T := TX12) (N := 32) rfl inlX12 (by decide) mw_7_4 (fun _ _ _ _ h9 => h9) hf (by decide) rfl dX12_beginTimes_13  (fun v3 hf => ?_)
    refine z_iload_n 1 dX12_beginTimes_16 rfl rfl ?_
    refine z_aload_n 0 dX12_beginTimes_17 rfl rfl ?_
    refine z_iload_n 1 dX12_beginTimes_18 rfl rfl ?_
    obtain ⟨v4, ev4, hf⟩ := ob hf
    refine z_cVi (ci := 12) (T := TX12) (N := 32) (As := [.int l1]) (rest := [.int l1, .ref v3]) (zm_X12_must ev4).2 (zm_X12_must ev4).1 (by decide) rfl (Or.inl rfl) mw_40_13 mw_40_14 mw_40_15 mw_1_5 mw_40_16 yk_X12_must (by decide) (by decide) rfl (Nat.le_of_ble_eq_true rfl) rfl dX12_beginTimes_19 ?_
    refine z_if_eq 40 hf dX12_beginTimes_22 (by decide) (fun hf => ?_) (fun hf => ?_)
    · refine z_iconst 0 0 dX12_beginTimes_40 (by decide) ?_
      exact zb_X12_beginTimes_41 hE hk2 hf
    · refine z_aload_n 0 dX12_beginTimes_25 rfl rfl ?_
      refine z_gP (ci := 12) (k := 0) (C := RX12) (T := TX12) (N := 32) rfl inlX12 (by decide) mw_6_19 (fun _ _ _ _ h9 => h9) hf (by decide) rfl dX12_beginTimes_26  (fun v5 hf => ?_)
      refine z_aload_n 0 dX12_beginTimes_29 rfl rfl ?_
      refine z_iload_n 1 dX12_beginTimes_30 rfl rfl ?_
      obtain ⟨v6, ev6, hf⟩ := ob hf
      refine z_cVi (ci := 12) (T := TX12) (N := 32) (As := [.int l1]) (rest := [.ref v5, .int l1, .ref v3]) (zm_X12_st ev6).2 (zm_X12_st ev6).1 (by decide) rfl (Or.inl rfl) mw_13_10 mw_13_11 mw_13_12 mw_1_5 mw_13_13 yk_X12_st (by decide) (by decide) rfl (Nat.le_of_ble_eq_true rfl) rfl dX12_beginTimes_31 ?_
      refine z_iconst 3 3 dX12_beginTimes_34 (by decide) ?_
      refine z_iadd dX12_beginTimes_35 ?_
      refine z_aI hf dX12_beginTimes_36  (fun v7 hf => ?_)
      refine z_goto 41 dX12_beginTimes_37 (by decide) ?_
      exact zb_X12_beginTimes_41 hE hk2 hf
set_option maxRecDepth 20000 in
theorem zb_X12_beginTimes_2 {N : Nat} {sh : Sh} {r : Dt} {E : EV} (hE : TG E none (sh, r))  : ∀ (n : Nat) (l0 : Nat) (l1 : Int32) (d : Dt), f_X12_beginTimes_2 N sh n l0 l1 d = some r → Z E yX12_beginTimes cX12_beginTimes 2 none 4 (sh, d) 2 [(0, .ref l0), (1, .int l1)] [] := by
  intro n
  induction n with
  | zero => intro l0 l1 d hf; cases hf
  | succ n ih => intro l0 l1 d hf; exact zg_X12_beginTimes_2 hE ih hf
set_option maxRecDepth 20000 in
theorem zm_X12_beginTimes {N : Nat} {sh : Sh} {d : Dt} {l0 : Nat} {r : Dt} (hf : f_X12_beginTimes N sh l0 d = some r) : isO sh l0 12 ∧ ∀ (l : Launch) (G : GG), Mt l G yX12_beginTimes cX12_beginTimes 2 none 4 [.ref l0] (sh, d) none (sh, r) := by
  have hf0 := hf
  unfold f_X12_beginTimes at hf
  refine ite_d hf (fun hO hf => ?_) (fun _ hf => ?_)
  · refine ⟨hO, fun l G => mt_of (Or.inl (by decide)) (Nat.le_of_ble_eq_true rfl) Le.rf (fun E hE => ?_)⟩
    show Z E yX12_beginTimes cX12_beginTimes 2 none 4 (sh, d) 0 [(0, .ref l0)] []
    refine z_iconst 0 0 dX12_beginTimes_0 (by decide) ?_
    refine z_istore_n [(1, .int (0 : Int32)), (0, .ref l0)] dX12_beginTimes_1 rfl (by decide) rfl ?_
    refine z_lv [(0, .ref l0), (1, .int (0 : Int32))] [1, 0] rfl ?_
    exact zb_X12_beginTimes_2 hE N _ _ _ hf
  · cases hf
set_option maxRecDepth 20000 in
theorem zm_X12_between {N : Nat} {sh : Sh} {d : Dt} {l0 : Nat} {l1 : Int32} {l2 : Int32} {r : Int32} (hf : f_X12_between N sh l0 l1 l2 d = some r) : isO sh l0 12 ∧ ∀ (l : Launch) (G : GG), Mt l G yX12_between cX12_between 3 (some .int) 2 [.ref l0, .int l1, .int l2] (sh, d) (some (.int r)) (sh, d) := by
  have hf0 := hf
  unfold f_X12_between at hf
  refine ite_d hf (fun hO hf => ?_) (fun _ hf => ?_)
  · refine ⟨hO, fun l G => mt_of (Or.inl (by decide)) (Nat.le_of_ble_eq_true rfl) Le.rf (fun E hE => ?_)⟩
    show Z E yX12_between cX12_between 3 (some .int) 2 (sh, d) 0 [(0, .ref l0), (1, .int l1), (2, .int l2)] []
    refine z_aload_n 0 dX12_between_0 rfl rfl ?_
    refine z_gP (ci := 12) (k := 9) (C := RX12) (T := TX12) (N := 32) rfl inlX12 (by decide) mw_6_23 (fun _ _ _ _ h9 => h9) hf (by decide) rfl dX12_between_1  (fun v1 hf => ?_)
    refine z_bipush 60 60 dX12_between_4 (by decide) ?_
    refine z_iload_n 1 dX12_between_6 rfl rfl ?_
    refine z_iload_n 2 dX12_between_7 rfl rfl ?_
    obtain ⟨v2, ev2, hf⟩ := ob hf
    refine z_cTi (As := [.int l1, .int l2]) (rest := [.int (60 : Int32), .ref v1]) (zm_X12_lesser ev2) (Or.inl rfl) mw_25_11 mw_25_12 mw_1_5 mw_25_13 yk_X12_lesser (by decide) (by decide) rfl (Nat.le_of_ble_eq_true rfl) rfl dX12_between_8 ?_
    refine z_imul dX12_between_11 ?_
    refine z_iload_n 1 dX12_between_12 rfl rfl ?_
    refine z_iadd dX12_between_13 ?_
    refine z_iload_n 2 dX12_between_14 rfl rfl ?_
    refine z_iadd dX12_between_15 ?_
    refine z_iload_n 1 dX12_between_16 rfl rfl ?_
    refine z_iload_n 2 dX12_between_17 rfl rfl ?_
    obtain ⟨v3, ev3, hf⟩ := ob hf
    refine z_cTi (As := [.int l1, .int l2]) (rest := [.int ((((60 : Int32) * v2) + l1) + l2), .ref v1]) (zm_X12_lesser ev3) (Or.inl rfl) mw_25_11 mw_25_12 mw_1_5 mw_25_13 yk_X12_lesser (by decide) (by decide) rfl (Nat.le_of_ble_eq_true rfl) rfl dX12_between_18 ?_
    refine z_isub dX12_between_21 ?_
    refine z_aI hf dX12_between_22  (fun v4 hf => ?_)
    cases hf
    exact z_ireturn hE rfl dX12_between_23
  · cases hf
