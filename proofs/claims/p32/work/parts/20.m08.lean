set_option maxRecDepth 20000 in
theorem le_X11_bodyOf_44 {N : Nat} {r : Nat × AS}  {t0 : Nat} {s : AS} (hf : f_X11_bodyOf_44 N t0 s = some r) : Le s r.2 := by
  unfold f_X11_bodyOf_44 at hf
  cases hf
  exact Le.rf
set_option maxRecDepth 20000 in
theorem zb_X11_bodyOf_44 {N : Nat} {r : Nat × AS} {E : EV} (hE : TG E (some (.ref r.1)) r.2)   {t0 : Nat} {s : AS} (hf : f_X11_bodyOf_44 N t0 s = some r) : Z E yX11_bodyOf cX11_bodyOf 2 (some (.object "PloughDepot$Plough")) 3 s 44 [] [.ref t0] := by
  unfold f_X11_bodyOf_44 at hf
  cases hf
  exact z_areturn hE rfl (by first | exact Or.inl ⟨_, rfl⟩ | exact Or.inr ⟨_, rfl⟩) dX11_bodyOf_44
set_option maxRecDepth 20000 in
theorem le_X11_bodyOf_31 {N : Nat} {r : Nat × AS}  {l0 : Nat} {t0 : Nat} {s : AS} (hf : f_X11_bodyOf_31 N l0 t0 s = some r) : Le s r.2 := by
  unfold f_X11_bodyOf_31 at hf
  obtain ⟨v4, -, hf⟩ := ob hf
  obtain ⟨v5, ev5, hf⟩ := ob hf
  refine Le.of (t := (s.1, s.2)) rfl ((lm_X0_init ev5).tr ?_)
  exact Le.via (le_X11_bodyOf_44 hf) rfl
set_option maxRecDepth 20000 in
theorem zb_X11_bodyOf_31 {N : Nat} {r : Nat × AS} {E : EV} (hE : TG E (some (.ref r.1)) r.2)   {l0 : Nat} {t0 : Nat} {s : AS} (hf : f_X11_bodyOf_31 N l0 t0 s = some r) : Z E yX11_bodyOf cX11_bodyOf 2 (some (.object "PloughDepot$Plough")) 3 s 31 [(0, .ref l0)] [.ref t0] := by
  unfold f_X11_bodyOf_31 at hf
  refine z_dup dX11_bodyOf_31 rfl ?_
  refine z_aload_n 0 dX11_bodyOf_32 rfl rfl ?_
  refine z_gP (ci := 11) (k := 0) (C := RX11) (T := TX11) (N := 14) rfl inlX11 (by decide) mw_1_15 (fun _ _ _ _ h9 => h9) hf (by decide) rfl dX11_bodyOf_33  (fun v4 hf => ?_)
  refine z_bipush 30 30 dX11_bodyOf_36 (by decide) ?_
  refine z_sipush 600 600 dX11_bodyOf_38 (by decide) ?_
  obtain ⟨v5, ev5, hf⟩ := ob hf
  refine z_cI (As := [.ref v4, .int (30 : Int32), .int (600 : Int32)]) (rest := [.ref t0]) (zm_X0_init ev5).2 (Or.inr (tg_le hE (le_X11_bodyOf_44 hf))) mw_30_6 mw_30_7 mw_29_23 mw_30_8 rfl yk_X0_init (by decide) (by decide) rfl (Nat.le_of_ble_eq_true rfl) rfl dX11_bodyOf_41 ?_
  refine z_lv [] [] rfl ?_
  exact zb_X11_bodyOf_44 hE hf
set_option maxRecDepth 20000 in
theorem le_X11_bodyOf_61 {N : Nat} {r : Nat × AS}  {t0 : Nat} {s : AS} (hf : f_X11_bodyOf_61 N t0 s = some r) : Le s r.2 := by
  unfold f_X11_bodyOf_61 at hf
  cases hf
  exact Le.rf
set_option maxRecDepth 20000 in
theorem zb_X11_bodyOf_61 {N : Nat} {r : Nat × AS} {E : EV} (hE : TG E (some (.ref r.1)) r.2)   {t0 : Nat} {s : AS} (hf : f_X11_bodyOf_61 N t0 s = some r) : Z E yX11_bodyOf cX11_bodyOf 2 (some (.object "PloughDepot$Plough")) 3 s 61 [] [.ref t0] := by
  unfold f_X11_bodyOf_61 at hf
  cases hf
  exact z_areturn hE rfl (by first | exact Or.inl ⟨_, rfl⟩ | exact Or.inr ⟨_, rfl⟩) dX11_bodyOf_61
set_option maxRecDepth 20000 in
theorem le_X11_bodyOf_48 {N : Nat} {r : Nat × AS}  {l0 : Nat} {t0 : Nat} {s : AS} (hf : f_X11_bodyOf_48 N l0 t0 s = some r) : Le s r.2 := by
  unfold f_X11_bodyOf_48 at hf
  obtain ⟨v6, -, hf⟩ := ob hf
  obtain ⟨v7, ev7, hf⟩ := ob hf
  refine Le.of (t := (s.1, s.2)) rfl ((lm_X7_init ev7).tr ?_)
  exact Le.via (le_X11_bodyOf_61 hf) rfl
set_option maxRecDepth 20000 in
theorem zb_X11_bodyOf_48 {N : Nat} {r : Nat × AS} {E : EV} (hE : TG E (some (.ref r.1)) r.2)   {l0 : Nat} {t0 : Nat} {s : AS} (hf : f_X11_bodyOf_48 N l0 t0 s = some r) : Z E yX11_bodyOf cX11_bodyOf 2 (some (.object "PloughDepot$Plough")) 3 s 48 [(0, .ref l0)] [.ref t0] := by
  unfold f_X11_bodyOf_48 at hf
  refine z_dup dX11_bodyOf_48 rfl ?_
  refine z_aload_n 0 dX11_bodyOf_49 rfl rfl ?_
  refine z_gP (ci := 11) (k := 0) (C := RX11) (T := TX11) (N := 14) rfl inlX11 (by decide) mw_1_15 (fun _ _ _ _ h9 => h9) hf (by decide) rfl dX11_bodyOf_50  (fun v6 hf => ?_)
  refine z_bipush 45 45 dX11_bodyOf_53 (by decide) ?_
  refine z_sipush 200 200 dX11_bodyOf_55 (by decide) ?_
  obtain ⟨v7, ev7, hf⟩ := ob hf
  refine z_cI (As := [.ref v6, .int (45 : Int32), .int (200 : Int32)]) (rest := [.ref t0]) (zm_X7_init ev7).2 (Or.inr (tg_le hE (le_X11_bodyOf_61 hf))) mw_30_10 mw_30_11 mw_30_2 mw_30_12 rfl yk_X7_init (by decide) (by decide) rfl (Nat.le_of_ble_eq_true rfl) rfl dX11_bodyOf_58 ?_
  refine z_lv [] [] rfl ?_
  exact zb_X11_bodyOf_61 hE hf
set_option maxRecDepth 20000 in
theorem le_X11_bodyOf_78 {N : Nat} {r : Nat × AS}  {t0 : Nat} {s : AS} (hf : f_X11_bodyOf_78 N t0 s = some r) : Le s r.2 := by
  unfold f_X11_bodyOf_78 at hf
  cases hf
  exact Le.rf
set_option maxRecDepth 20000 in
theorem zb_X11_bodyOf_78 {N : Nat} {r : Nat × AS} {E : EV} (hE : TG E (some (.ref r.1)) r.2)   {t0 : Nat} {s : AS} (hf : f_X11_bodyOf_78 N t0 s = some r) : Z E yX11_bodyOf cX11_bodyOf 2 (some (.object "PloughDepot$Plough")) 3 s 78 [] [.ref t0] := by
  unfold f_X11_bodyOf_78 at hf
  cases hf
  exact z_areturn hE rfl (by first | exact Or.inl ⟨_, rfl⟩ | exact Or.inr ⟨_, rfl⟩) dX11_bodyOf_78
set_option maxRecDepth 20000 in
theorem le_X11_bodyOf_65 {N : Nat} {r : Nat × AS}  {l0 : Nat} {t0 : Nat} {s : AS} (hf : f_X11_bodyOf_65 N l0 t0 s = some r) : Le s r.2 := by
  unfold f_X11_bodyOf_65 at hf
  obtain ⟨v8, -, hf⟩ := ob hf
  obtain ⟨v9, ev9, hf⟩ := ob hf
  refine Le.of (t := (s.1, s.2)) rfl ((lm_X9_init ev9).tr ?_)
  exact Le.via (le_X11_bodyOf_78 hf) rfl
set_option maxRecDepth 20000 in
theorem zb_X11_bodyOf_65 {N : Nat} {r : Nat × AS} {E : EV} (hE : TG E (some (.ref r.1)) r.2)   {l0 : Nat} {t0 : Nat} {s : AS} (hf : f_X11_bodyOf_65 N l0 t0 s = some r) : Z E yX11_bodyOf cX11_bodyOf 2 (some (.object "PloughDepot$Plough")) 3 s 65 [(0, .ref l0)] [.ref t0] := by
  unfold f_X11_bodyOf_65 at hf
  refine z_dup dX11_bodyOf_65 rfl ?_
  refine z_aload_n 0 dX11_bodyOf_66 rfl rfl ?_
  refine z_gP (ci := 11) (k := 0) (C := RX11) (T := TX11) (N := 14) rfl inlX11 (by decide) mw_1_15 (fun _ _ _ _ h9 => h9) hf (by decide) rfl dX11_bodyOf_67  (fun v8 hf => ?_)
  refine z_bipush 20 20 dX11_bodyOf_70 (by decide) ?_
  refine z_sipush 400 400 dX11_bodyOf_72 (by decide) ?_
  obtain ⟨v9, ev9, hf⟩ := ob hf
  refine z_cI (As := [.ref v8, .int (20 : Int32), .int (400 : Int32)]) (rest := [.ref t0]) (zm_X9_init ev9).2 (Or.inr (tg_le hE (le_X11_bodyOf_78 hf))) mw_30_14 mw_30_15 mw_30_5 mw_30_16 rfl yk_X9_init (by decide) (by decide) rfl (Nat.le_of_ble_eq_true rfl) rfl dX11_bodyOf_75 ?_
  refine z_lv [] [] rfl ?_
  exact zb_X11_bodyOf_78 hE hf
set_option maxRecDepth 20000 in
theorem le_X11_bodyOf_95 {N : Nat} {r : Nat × AS}  {t0 : Nat} {s : AS} (hf : f_X11_bodyOf_95 N t0 s = some r) : Le s r.2 := by
  unfold f_X11_bodyOf_95 at hf
  cases hf
  exact Le.rf
set_option maxRecDepth 20000 in
theorem zb_X11_bodyOf_95 {N : Nat} {r : Nat × AS} {E : EV} (hE : TG E (some (.ref r.1)) r.2)   {t0 : Nat} {s : AS} (hf : f_X11_bodyOf_95 N t0 s = some r) : Z E yX11_bodyOf cX11_bodyOf 2 (some (.object "PloughDepot$Plough")) 3 s 95 [] [.ref t0] := by
  unfold f_X11_bodyOf_95 at hf
  cases hf
  exact z_areturn hE rfl (by first | exact Or.inl ⟨_, rfl⟩ | exact Or.inr ⟨_, rfl⟩) dX11_bodyOf_95
set_option maxRecDepth 20000 in
theorem le_X11_bodyOf_82 {N : Nat} {r : Nat × AS}  {l0 : Nat} {t0 : Nat} {s : AS} (hf : f_X11_bodyOf_82 N l0 t0 s = some r) : Le s r.2 := by
  unfold f_X11_bodyOf_82 at hf
  obtain ⟨v10, -, hf⟩ := ob hf
  obtain ⟨v11, ev11, hf⟩ := ob hf
  refine Le.of (t := (s.1, s.2)) rfl ((lm_X6_init ev11).tr ?_)
  exact Le.via (le_X11_bodyOf_95 hf) rfl
set_option maxRecDepth 20000 in
theorem zb_X11_bodyOf_82 {N : Nat} {r : Nat × AS} {E : EV} (hE : TG E (some (.ref r.1)) r.2)   {l0 : Nat} {t0 : Nat} {s : AS} (hf : f_X11_bodyOf_82 N l0 t0 s = some r) : Z E yX11_bodyOf cX11_bodyOf 2 (some (.object "PloughDepot$Plough")) 3 s 82 [(0, .ref l0)] [.ref t0] := by
  unfold f_X11_bodyOf_82 at hf
  refine z_dup dX11_bodyOf_82 rfl ?_
  refine z_aload_n 0 dX11_bodyOf_83 rfl rfl ?_
  refine z_gP (ci := 11) (k := 0) (C := RX11) (T := TX11) (N := 14) rfl inlX11 (by decide) mw_1_15 (fun _ _ _ _ h9 => h9) hf (by decide) rfl dX11_bodyOf_84  (fun v10 hf => ?_)
  refine z_bipush 50 50 dX11_bodyOf_87 (by decide) ?_
  refine z_sipush 200 200 dX11_bodyOf_89 (by decide) ?_
  obtain ⟨v11, ev11, hf⟩ := ob hf
  refine z_cI (As := [.ref v10, .int (50 : Int32), .int (200 : Int32)]) (rest := [.ref t0]) (zm_X6_init ev11).2 (Or.inr (tg_le hE (le_X11_bodyOf_95 hf))) mw_6_8 mw_6_9 mw_2_22 mw_6_10 rfl yk_X6_init (by decide) (by decide) rfl (Nat.le_of_ble_eq_true rfl) rfl dX11_bodyOf_92 ?_
  refine z_lv [] [] rfl ?_
  exact zb_X11_bodyOf_95 hE hf
set_option maxRecDepth 20000 in
theorem lm_X11_bodyOf {N : Nat} {s : AS} {l0 : Nat} {l1 : Int32} {r : Nat × AS} (hf : f_X11_bodyOf N l0 l1 s = some r) : Le s r.2 := by
  unfold f_X11_bodyOf at hf
  refine ite_c hf (fun hf => ?_) (fun hf => ?_)
  · skip
    refine ite_c hf (fun hf => ?_) (fun hf => ?_)
    · refine Le.of (t := (s.1, s.2)) rfl (le_nObj.tr (u := _) (t := nObj (s.1, s.2) 0) ?_)
      exact Le.via (le_X11_bodyOf_31 hf) rfl
    refine ite_c hf (fun hf => ?_) (fun hf => ?_)
    · refine Le.of (t := (s.1, s.2)) rfl (le_nObj.tr (u := _) (t := nObj (s.1, s.2) 7) ?_)
      exact Le.via (le_X11_bodyOf_48 hf) rfl
    refine ite_c hf (fun hf => ?_) (fun hf => ?_)
    · refine Le.of (t := (s.1, s.2)) rfl (le_nObj.tr (u := _) (t := nObj (s.1, s.2) 9) ?_)
      exact Le.via (le_X11_bodyOf_65 hf) rfl
    refine Le.of (t := (s.1, s.2)) rfl (le_nObj.tr (u := _) (t := nObj (s.1, s.2) 6) ?_)
    exact Le.via (le_X11_bodyOf_82 hf) rfl
  · cases hf
set_option maxRecDepth 20000 in
theorem zm_X11_bodyOf {N : Nat} {s : AS} {l0 : Nat} {l1 : Int32} {r : Nat × AS} (hf : f_X11_bodyOf N l0 l1 s = some r) : isO s.1 l0 11 ∧ ∀ (l : Launch) (G : GG), Mt l G yX11_bodyOf cX11_bodyOf 2 (some (.object "PloughDepot$Plough")) 3 [.ref l0, .int l1] s (some (.ref r.1)) r.2 := by
  have hf0 := hf
  unfold f_X11_bodyOf at hf
  refine ite_d hf (fun hO hf => ?_) (fun _ hf => ?_)
  · refine ⟨hO, fun l G => mt_of (Or.inl (by decide)) (Nat.le_of_ble_eq_true rfl) (lm_X11_bodyOf hf0) (fun E hE => ?_)⟩
    show Z E yX11_bodyOf cX11_bodyOf 2 (some (.object "PloughDepot$Plough")) 3 s 0 [(0, .ref l0), (1, .int l1)] []
    refine z_iload_n 1 dX11_bodyOf_0 rfl rfl ?_
    refine z_tabc (v := 1) 27 28 hf dX11_bodyOf_1 (by decide) (by decide) rfl (by decide) (fun hf => ?_) (fun n1 hf => ?_)
    · refine z_newo (ci := 0) (C := RX0) (T := TX0) (N := 3) rfl inlX0 tyX0 tyX0_ok mw_29_21 mw_29_22 mw_29_23 rfl df_0 (tg_le hE (le_X11_bodyOf_31 hf)) dX11_bodyOf_28 ?_
      refine z_lv [(0, .ref l0)] [0] rfl ?_
      exact zb_X11_bodyOf_31 hE hf
    refine z_tabc (v := 2) 44 45 hf dX11_bodyOf_1 (by decide) (by decide) rfl (by decide) (fun hf => ?_) (fun n2 hf => ?_)
    · refine z_newo (ci := 7) (C := RX7) (T := TX7) (N := 3) rfl inlX7 tyX7 tyX7_ok mw_30_0 mw_30_1 mw_30_2 rfl df_7 (tg_le hE (le_X11_bodyOf_48 hf)) dX11_bodyOf_45 ?_
      refine z_lv [(0, .ref l0)] [0] rfl ?_
      exact zb_X11_bodyOf_48 hE hf
    refine z_tabc (v := 3) 61 62 hf dX11_bodyOf_1 (by decide) (by decide) rfl (by decide) (fun hf => ?_) (fun n3 hf => ?_)
    · refine z_newo (ci := 9) (C := RX9) (T := TX9) (N := 3) rfl inlX9 tyX9 tyX9_ok mw_30_3 mw_30_4 mw_30_5 rfl df_9 (tg_le hE (le_X11_bodyOf_65 hf)) dX11_bodyOf_62 ?_
      refine z_lv [(0, .ref l0)] [0] rfl ?_
      exact zb_X11_bodyOf_65 hE hf
    refine z_tabd 79 dX11_bodyOf_1 (by have qn1 := tab_out 1 (by decide) n1; have qn2 := tab_out 2 (by decide) n2; have qn3 := tab_out 3 (by decide) n3; omega) (by decide) ?_
    refine z_newo (ci := 6) (C := RX6) (T := TX6) (N := 3) rfl inlX6 tyX6 tyX6_ok mw_2_9 mw_2_21 mw_2_22 rfl df_6 (tg_le hE (le_X11_bodyOf_82 hf)) dX11_bodyOf_79 ?_
    refine z_lv [(0, .ref l0)] [0] rfl ?_
    exact zb_X11_bodyOf_82 hE hf
  · cases hf
set_option maxRecDepth 20000 in
theorem zb_X1_isMissing_18 {N : Nat} {sh : Sh} {d : Dt} {r : Int32} {E : EV} (hE : TG E (some (.int r)) (sh, d))  {t0 : Int32} (hf : f_X1_isMissing_18 N sh t0 d = some r) : Z E yX1_isMissing cX1_isMissing 2 (some .boolean) 2 (sh, d) 18 [] [.int t0] := by
  unfold f_X1_isMissing_18 at hf
  obtain ⟨v3, ev3, hg⟩ := ob hf
  obtain ⟨rfl, hbv3⟩ := o_bool_spec ev3
  cases hg
  exact z_zreturn hE rfl hbv3 dX1_isMissing_18
set_option maxRecDepth 20000 in
theorem zm_X1_isMissing {N : Nat} {sh : Sh} {d : Dt} {l0 : Nat} {l1 : Int32} {r : Int32} (hf : f_X1_isMissing N sh l0 l1 d = some r) : isO sh l0 1 ∧ ∀ (l : Launch) (G : GG), Mt l G yX1_isMissing cX1_isMissing 2 (some .boolean) 2 [.ref l0, .int l1] (sh, d) (some (.int r)) (sh, d) := by
  have hf0 := hf
  unfold f_X1_isMissing at hf
  refine ite_d hf (fun hO hf => ?_) (fun _ hf => ?_)
  · refine ⟨hO, fun l G => mt_of (Or.inl (by decide)) (Nat.le_of_ble_eq_true rfl) Le.rf (fun E hE => ?_)⟩
    show Z E yX1_isMissing cX1_isMissing 2 (some .boolean) 2 (sh, d) 0 [(0, .ref l0), (1, .int l1)] []
    refine z_aload_n 0 dX1_isMissing_0 rfl rfl ?_
    refine z_gP (ci := 1) (k := 2) (C := RX1) (T := TX1) (N := 8) rfl inlX1 (by decide) mw_3_15 (fun _ _ _ _ h9 => h9) hf (by decide) rfl dX1_isMissing_1  (fun v1 hf => ?_)
    refine z_iload_n 1 dX1_isMissing_4 rfl rfl ?_
    refine z_iconst 2 2 dX1_isMissing_5 (by decide) ?_
    obtain ⟨v2, ev2, hf⟩ := ob hf
    refine z_cVi (ci := 8) (T := TX8) (N := 2) (As := [.int l1, .int (2 : Int32)]) (rest := []) (zm_X8_get ev2).2 (zm_X8_get ev2).1 (by decide) rfl (Or.inl rfl) mw_10_10 mw_10_11 mw_10_12 mw_3_13 mw_10_13 yk_X8_get (by decide) (by decide) rfl (Nat.le_of_ble_eq_true rfl) rfl dX1_isMissing_6 ?_
    refine z_iconst (-1) (-1) dX1_isMissing_9 (by decide) ?_
    refine z_icmp_ne 17 hf dX1_isMissing_10 (by decide) (fun hf => ?_) (fun hf => ?_)
    · refine z_iconst 0 0 dX1_isMissing_17 (by decide) ?_
      refine z_lv [] [] rfl ?_
      exact zb_X1_isMissing_18 hE hf
    · refine z_iconst 1 1 dX1_isMissing_13 (by decide) ?_
      refine z_goto 18 dX1_isMissing_14 (by decide) ?_
      refine z_lv [] [] rfl ?_
      exact zb_X1_isMissing_18 hE hf
  · cases hf
set_option maxRecDepth 20000 in
theorem zb_X1_reaches_28 {N : Nat} {sh : Sh} {d : Dt} {r : Int32} {E : EV} (hE : TG E (some (.int r)) (sh, d))  {t0 : Int32} (hf : f_X1_reaches_28 N sh t0 d = some r) : Z E yX1_reaches cX1_reaches 4 (some .boolean) 2 (sh, d) 28 [] [.int t0] := by
  unfold f_X1_reaches_28 at hf
  obtain ⟨v3, ev3, hg⟩ := ob hf
  obtain ⟨rfl, hbv3⟩ := o_bool_spec ev3
  cases hg
  exact z_zreturn hE rfl hbv3 dX1_reaches_28
set_option maxRecDepth 20000 in
theorem zb_X1_reaches_27 {N : Nat} {sh : Sh} {d : Dt} {r : Int32} {E : EV} (hE : TG E (some (.int r)) (sh, d))   (hf : f_X1_reaches_27 N sh  d = some r) : Z E yX1_reaches cX1_reaches 4 (some .boolean) 2 (sh, d) 27 [] [] := by
  unfold f_X1_reaches_27 at hf
  refine z_iconst 0 0 dX1_reaches_27 (by decide) ?_
  exact zb_X1_reaches_28 hE hf
set_option maxRecDepth 20000 in
theorem zm_X1_reaches {N : Nat} {sh : Sh} {d : Dt} {l0 : Nat} {l1 : Int32} {l2 : Int32} {l3 : Int32} {r : Int32} (hf : f_X1_reaches N sh l0 l1 l2 l3 d = some r) : isO sh l0 1 ∧ ∀ (l : Launch) (G : GG), Mt l G yX1_reaches cX1_reaches 4 (some .boolean) 2 [.ref l0, .int l1, .int l2, .int l3] (sh, d) (some (.int r)) (sh, d) := by
  have hf0 := hf
  unfold f_X1_reaches at hf
  refine ite_d hf (fun hO hf => ?_) (fun _ hf => ?_)
  · refine ⟨hO, fun l G => mt_of (Or.inl (by decide)) (Nat.le_of_ble_eq_true rfl) Le.rf (fun E hE => ?_)⟩
    show Z E yX1_reaches cX1_reaches 4 (some .boolean) 2 (sh, d) 0 [(0, .ref l0), (1, .int l1), (2, .int l2), (3, .int l3)] []
    refine z_iload_n 2 dX1_reaches_0 rfl rfl ?_
    refine z_if_lt 27 hf dX1_reaches_1 (by decide) (fun hf => ?_) (fun hf => ?_)
    · refine z_lv [] [] rfl ?_
      exact zb_X1_reaches_27 hE hf
    · refine z_iload_n 3 dX1_reaches_4 rfl rfl ?_
      refine z_if_lt 27 hf dX1_reaches_5 (by decide) (fun hf => ?_) (fun hf => ?_)
      · refine z_lv [] [] rfl ?_
        exact zb_X1_reaches_27 hE hf
      · refine z_iload_n 2 dX1_reaches_8 rfl rfl ?_
        refine z_aload_n 0 dX1_reaches_9 rfl rfl ?_
        refine z_gP (ci := 1) (k := 2) (C := RX1) (T := TX1) (N := 8) rfl inlX1 (by decide) mw_3_15 (fun _ _ _ _ h9 => h9) hf (by decide) rfl dX1_reaches_10  (fun v1 hf => ?_)
        refine z_iload_n 1 dX1_reaches_13 rfl rfl ?_
        refine z_iconst 2 2 dX1_reaches_14 (by decide) ?_
        obtain ⟨v2, ev2, hf⟩ := ob hf
        refine z_cVi (ci := 8) (T := TX8) (N := 2) (As := [.int l1, .int (2 : Int32)]) (rest := [.int l2]) (zm_X8_get ev2).2 (zm_X8_get ev2).1 (by decide) rfl (Or.inl rfl) mw_10_10 mw_10_11 mw_10_12 mw_3_13 mw_10_13 yk_X8_get (by decide) (by decide) rfl (Nat.le_of_ble_eq_true rfl) rfl dX1_reaches_15 ?_
        refine z_iload_n 3 dX1_reaches_18 rfl rfl ?_
        refine z_isub dX1_reaches_19 ?_
        refine z_icmp_gt 27 hf dX1_reaches_20 (by decide) (fun hf => ?_) (fun hf => ?_)
        · refine z_lv [] [] rfl ?_
          exact zb_X1_reaches_27 hE hf
        · refine z_iconst 1 1 dX1_reaches_23 (by decide) ?_
          refine z_goto 28 dX1_reaches_24 (by decide) ?_
          refine z_lv [] [] rfl ?_
          exact zb_X1_reaches_28 hE hf
  · cases hf
set_option maxRecDepth 20000 in
theorem zb_X1_whyUncopied_16 {N : Nat} {sh : Sh} {d : Dt} {r : Int32} {E : EV} (hE : TG E (some (.int r)) (sh, d))   (hf : f_X1_whyUncopied_16 N sh  d = some r) : Z E yX1_whyUncopied cX1_whyUncopied 6 (some .int) 3 (sh, d) 16 [] [] := by
  unfold f_X1_whyUncopied_16 at hf
  refine z_bipush (-4) (-4) dX1_whyUncopied_16 (by decide) ?_
  cases hf
  exact z_ireturn hE rfl dX1_whyUncopied_18
set_option maxRecDepth 20000 in
theorem zb_X1_whyUncopied_48 {N : Nat} {sh : Sh} {d : Dt} {r : Int32} {E : EV} (hE : TG E (some (.int r)) (sh, d))  {t0 : Int32} (hf : f_X1_whyUncopied_48 N sh t0 d = some r) : Z E yX1_whyUncopied cX1_whyUncopied 6 (some .int) 3 (sh, d) 48 [] [.int t0] := by
  unfold f_X1_whyUncopied_48 at hf
  cases hf
  exact z_ireturn hE rfl dX1_whyUncopied_48
set_option maxRecDepth 20000 in
theorem zb_X1_whyUncopied_46 {N : Nat} {sh : Sh} {d : Dt} {r : Int32} {E : EV} (hE : TG E (some (.int r)) (sh, d))   (hf : f_X1_whyUncopied_46 N sh  d = some r) : Z E yX1_whyUncopied cX1_whyUncopied 6 (some .int) 3 (sh, d) 46 [] [] := by
  unfold f_X1_whyUncopied_46 at hf
  refine z_bipush (-5) (-5) dX1_whyUncopied_46 (by decide) ?_
  exact zb_X1_whyUncopied_48 hE hf
set_option maxRecDepth 20000 in
theorem zm_X1_whyUncopied {N : Nat} {sh : Sh} {d : Dt} {l0 : Nat} {l1 : Int32} {l2 : Int32} {l3 : Int32} {l4 : Int32} {l5 : Int32} {r : Int32} (hf : f_X1_whyUncopied N sh l0 l1 l2 l3 l4 l5 d = some r) : isO sh l0 1 ∧ ∀ (l : Launch) (G : GG), Mt l G yX1_whyUncopied cX1_whyUncopied 6 (some .int) 3 [.ref l0, .int l1, .int l2, .int l3, .int l4, .int l5] (sh, d) (some (.int r)) (sh, d) := by
  have hf0 := hf
  unfold f_X1_whyUncopied at hf
  refine ite_d hf (fun hO hf => ?_) (fun _ hf => ?_)
  · refine ⟨hO, fun l G => mt_of (Or.inl (by decide)) (Nat.le_of_ble_eq_true rfl) Le.rf (fun E hE => ?_)⟩
    show Z E yX1_whyUncopied cX1_whyUncopied 6 (some .int) 3 (sh, d) 0 [(0, .ref l0), (1, .int l1), (2, .int l2), (3, .int l3), (4, .int l4), (5, .int l5)] []
    refine z_aload_n 0 dX1_whyUncopied_0 rfl rfl ?_
    refine z_iload_n 1 dX1_whyUncopied_1 rfl rfl ?_
    obtain ⟨v1, ev1, hf⟩ := ob hf
    refine z_cVi (ci := 1) (T := TX1) (N := 8) (As := [.int l1]) (rest := []) (zm_X1_isMissing ev1).2 (zm_X1_isMissing ev1).1 (by decide) rfl (Or.inl rfl) mw_22_22 mw_21_18 mw_21_19 mw_1_18 mw_21_20 yk_X1_isMissing (by decide) (by decide) rfl (Nat.le_of_ble_eq_true rfl) rfl dX1_whyUncopied_2 ?_
    refine z_if_ne 16 hf dX1_whyUncopied_5 (by decide) (fun hf => ?_) (fun hf => ?_)
    · refine z_lv [] [] rfl ?_
      exact zb_X1_whyUncopied_16 hE hf
    · refine z_aload_n 0 dX1_whyUncopied_8 rfl rfl ?_
      refine z_iload_n 3 dX1_whyUncopied_9 rfl rfl ?_
      obtain ⟨v2, ev2, hf⟩ := ob hf
      refine z_cVi (ci := 1) (T := TX1) (N := 8) (As := [.int l3]) (rest := []) (zm_X1_isMissing ev2).2 (zm_X1_isMissing ev2).1 (by decide) rfl (Or.inl rfl) mw_22_22 mw_21_18 mw_21_19 mw_1_18 mw_21_20 yk_X1_isMissing (by decide) (by decide) rfl (Nat.le_of_ble_eq_true rfl) rfl dX1_whyUncopied_10 ?_
      refine z_if_eq 19 hf dX1_whyUncopied_13 (by decide) (fun hf => ?_) (fun hf => ?_)
      · refine z_aload_n 0 dX1_whyUncopied_19 rfl rfl ?_
        refine z_iload_n 1 dX1_whyUncopied_20 rfl rfl ?_
        refine z_iload_n 2 dX1_whyUncopied_21 rfl rfl ?_
        refine z_iload 5 dX1_whyUncopied_22 rfl ?_
        obtain ⟨v3, ev3, hf⟩ := ob hf
        refine z_cVi (ci := 1) (T := TX1) (N := 8) (As := [.int l1, .int l2, .int l5]) (rest := []) (zm_X1_reaches ev3).2 (zm_X1_reaches ev3).1 (by decide) rfl (Or.inl rfl) mw_25_22 mw_25_23 mw_26_0 mw_1_18 mw_26_1 yk_X1_reaches (by decide) (by decide) rfl (Nat.le_of_ble_eq_true rfl) rfl dX1_whyUncopied_24 ?_
        refine z_if_eq 46 hf dX1_whyUncopied_27 (by decide) (fun hf => ?_) (fun hf => ?_)
        · refine z_lv [] [] rfl ?_
          exact zb_X1_whyUncopied_46 hE hf
        · refine z_aload_n 0 dX1_whyUncopied_30 rfl rfl ?_
          refine z_iload_n 3 dX1_whyUncopied_31 rfl rfl ?_
          refine z_iload 4 dX1_whyUncopied_32 rfl ?_
          refine z_iload 5 dX1_whyUncopied_34 rfl ?_
          obtain ⟨v4, ev4, hf⟩ := ob hf
          refine z_cVi (ci := 1) (T := TX1) (N := 8) (As := [.int l3, .int l4, .int l5]) (rest := []) (zm_X1_reaches ev4).2 (zm_X1_reaches ev4).1 (by decide) rfl (Or.inl rfl) mw_25_22 mw_25_23 mw_26_0 mw_1_18 mw_26_1 yk_X1_reaches (by decide) (by decide) rfl (Nat.le_of_ble_eq_true rfl) rfl dX1_whyUncopied_36 ?_
          refine z_if_eq 46 hf dX1_whyUncopied_39 (by decide) (fun hf => ?_) (fun hf => ?_)
          · refine z_lv [] [] rfl ?_
            exact zb_X1_whyUncopied_46 hE hf
          · refine z_iconst 0 0 dX1_whyUncopied_42 (by decide) ?_
            refine z_goto 48 dX1_whyUncopied_43 (by decide) ?_
            refine z_lv [] [] rfl ?_
            exact zb_X1_whyUncopied_48 hE hf
      · refine z_lv [] [] rfl ?_
        exact zb_X1_whyUncopied_16 hE hf
  · cases hf
set_option maxRecDepth 20000 in
theorem zm_X1_copyReadings {N : Nat} {sh : Sh} {d : Dt} {l0 : Nat} {l1 : Int32} {l2 : Int32} {l3 : Int32} {l4 : Int32} {l5 : Int32} {r : Dt} (hf : f_X1_copyReadings N sh l0 l1 l2 l3 l4 l5 d = some r) : isO sh l0 1 ∧ ∀ (l : Launch) (G : GG), Mt l G yX1_copyReadings cX1_copyReadings 6 none 1 [.ref l0, .int l1, .int l2, .int l3, .int l4, .int l5] (sh, d) none (sh, r) := by
  have hf0 := hf
  unfold f_X1_copyReadings at hf
  refine ite_d hf (fun hO hf => ?_) (fun _ hf => ?_)
  · refine ⟨hO, fun l G => mt_of (Or.inl (by decide)) (Nat.le_of_ble_eq_true rfl) Le.rf (fun E hE => ?_)⟩
    show Z E yX1_copyReadings cX1_copyReadings 6 none 1 (sh, d) 0 [(0, .ref l0), (1, .int l1), (2, .int l2), (3, .int l3), (4, .int l4), (5, .int l5)] []
    refine z_aload_n 0 dX1_copyReadings_0 rfl rfl ?_
    refine z_gQ (ci := 1) (k := 7) (C := RX1) (T := TX1) (N := 8) rfl inlX1 (by decide) mw_3_21 (fun _ _ _ _ h9 => h9) hf (by decide) rfl dX1_copyReadings_1  (fun v1 hf => ?_)
    refine z_iload_n 1 dX1_copyReadings_4 rfl rfl ?_
    refine z_sipush 200 200 dX1_copyReadings_5 (by decide) ?_
    refine z_imul dX1_copyReadings_8 ?_
    refine z_iload_n 2 dX1_copyReadings_9 rfl rfl ?_
    refine z_iadd dX1_copyReadings_10 ?_
    refine z_aload_n 0 dX1_copyReadings_11 rfl rfl ?_
    refine z_gQ (ci := 1) (k := 7) (C := RX1) (T := TX1) (N := 8) rfl inlX1 (by decide) mw_3_21 (fun _ _ _ _ h9 => h9) hf (by decide) rfl dX1_copyReadings_12  (fun v2 hf => ?_)
    refine z_iload_n 3 dX1_copyReadings_15 rfl rfl ?_
    refine z_sipush 200 200 dX1_copyReadings_16 (by decide) ?_
    refine z_imul dX1_copyReadings_19 ?_
    refine z_iload 4 dX1_copyReadings_20 rfl ?_
    refine z_iadd dX1_copyReadings_22 ?_
    refine z_iload 5 dX1_copyReadings_23 rfl ?_
    refine z_cpy hf mw_8_15 mw_8_16 mw_8_17 mw_8_18 (by decide) (Nat.le_of_ble_eq_true rfl) dX1_copyReadings_25 (fun d3 hf => ?_)
    cases hf
    exact z_return hE rfl dX1_copyReadings_28
  · cases hf
set_option maxRecDepth 20000 in
theorem le_X11_copies_84 {N : Nat} {r : Int32 × AS}  {l0 : Nat} {l4 : Int32} {s : AS} (hf : f_X11_copies_84 N l0 l4 s = some r) : Le s r.2 := by
  unfold f_X11_copies_84 at hf
  obtain ⟨v7, -, hf⟩ := ob hf
  cases hf
  exact Le.rf
set_option maxRecDepth 20000 in
theorem zb_X11_copies_84 {N : Nat} {r : Int32 × AS} {E : EV} (hE : TG E (some (.int r.1)) r.2)   {l0 : Nat} {l4 : Int32} {s : AS} (hf : f_X11_copies_84 N l0 l4 s = some r) : Z E yX11_copies cX11_copies 7 (some .int) 6 s 84 [(0, .ref l0), (4, .int l4)] [] := by
  unfold f_X11_copies_84 at hf
  refine z_aload_n 0 dX11_copies_84 rfl rfl ?_
  refine z_iload 1 dX11_copies_85 rfl ?_
  obtain ⟨v7, ev7, hf⟩ := ob hf
  refine z_cVi (ci := 11) (T := TX11) (N := 14) (As := [.int l4]) (rest := []) (zm_X11_answer ev7).2 (zm_X11_answer ev7).1 (by decide) rfl (Or.inl rfl) mw_11_2 mw_11_3 mw_11_4 mw_1_2 mw_11_5 yk_X11_answer (by decide) (by decide) rfl (Nat.le_of_ble_eq_true rfl) rfl dX11_copies_87 ?_
  cases hf
  exact z_ireturn hE rfl dX11_copies_90
set_option maxRecDepth 20000 in
theorem le_X11_copies_61 {N : Nat} {k6 : Nat → Int32 → Int32 → Int32 → Int32 → Int32 → AS → Option (Int32 × AS)} {r : Int32 × AS} (hk6 : ∀ (l0 : Nat) (l1 : Int32) (l2 : Int32) (l3 : Int32) (l4 : Int32) (l5 : Int32) (s : AS), k6 l0 l1 l2 l3 l4 l5 s = some r → Le s r.2) {l0 : Nat} {l1 : Int32} {l2 : Int32} {l3 : Int32} {l4 : Int32} {l5 : Int32} {s : AS} (hf : f_X11_copies_61 N k6 l0 l1 l2 l3 l4 l5 s = some r) : Le s r.2 := by
  unfold f_X11_copies_61 at hf
  obtain ⟨v8, -, hf⟩ := ob hf
  obtain ⟨v9, -, hf⟩ := ob hf
  exact Le.via (hk6 _ _ _ _ _ _ _ hf) rfl
set_option maxRecDepth 20000 in
theorem zb_X11_copies_61 {N : Nat} {k6 : Nat → Int32 → Int32 → Int32 → Int32 → Int32 → AS → Option (Int32 × AS)} {r : Int32 × AS} {E : EV} (hE : TG E (some (.int r.1)) r.2) (hk6 : ∀ (l0 : Nat) (l1 : Int32) (l2 : Int32) (l3 : Int32) (l4 : Int32) (l5 : Int32) (s : AS), k6 l0 l1 l2 l3 l4 l5 s = some r → Z E yX11_copies cX11_copies 7 (some .int) 6 s 6 [(0, .ref l0), (1, .int l1), (2, .int l2), (3, .int l3), (4, .int l4), (5, .int l5)] []) (hq6 : ∀ (l0 : Nat) (l1 : Int32) (l2 : Int32) (l3 : Int32) (l4 : Int32) (l5 : Int32) (s : AS), k6 l0 l1 l2 l3 l4 l5 s = some r → Le s r.2) {l0 : Nat} {l1 : Int32} {l2 : Int32} {l3 : Int32} {l4 : Int32} {l5 : Int32} {s : AS} (hf : f_X11_copies_61 N k6 l0 l1 l2 l3 l4 l5 s = some r) : Z E yX11_copies cX11_copies 7 (some .int) 6 s 61 [(0, .ref l0), (1, .int l1), (2, .int l2), (3, .int l3), (4, .int l4), (5, .int l5)] [] := by
  unfold f_X11_copies_61 at hf
  refine z_aload_n 0 dX11_copies_61 rfl rfl ?_
  refine z_gP (ci := 11) (k := 1) (C := RX11) (T := TX11) (N := 14) rfl inlX11 (by decide) mw_1_19 (fun _ _ _ _ h9 => h9) hf (by decide) rfl dX11_copies_62  (fun v8 hf => ?_)
  refine z_iload 5 dX11_copies_65 rfl ?_
  refine z_iload_n 1 dX11_copies_67 rfl rfl ?_
  refine z_iload 5 dX11_copies_68 rfl ?_
  refine z_iload_n 2 dX11_copies_70 rfl rfl ?_
  refine z_iload_n 3 dX11_copies_71 rfl rfl ?_
  obtain ⟨v9, ev9, hf⟩ := ob hf
  refine z_cVv (ci := 1) (T := TX1) (N := 8) (As := [.int l5, .int l1, .int l5, .int l2, .int l3]) (rest := []) (zm_X1_copyReadings ev9).2 (zm_X1_copyReadings ev9).1 (by decide) rfl (Or.inl rfl) mw_26_2 mw_26_3 mw_26_4 mw_1_18 mw_26_5 yk_X1_copyReadings (by decide) (by decide) rfl (Nat.le_of_ble_eq_true rfl) rfl dX11_copies_72 ?_
  refine z_iinc [(4, .int (l4 + 1)), (0, .ref l0), (1, .int l1), (2, .int l2), (3, .int l3), (5, .int l5)] 4 (l4 + 1) dX11_copies_75 rfl rfl (by decide) rfl ?_
  refine z_iinc [(5, .int (l5 + 1)), (4, .int (l4 + 1)), (0, .ref l0), (1, .int l1), (2, .int l2), (3, .int l3)] 5 (l5 + 1) dX11_copies_78 rfl rfl (by decide) rfl ?_
  refine z_goto 6 dX11_copies_81 (by decide) ?_
  refine z_lv [(0, .ref l0), (1, .int l1), (2, .int l2), (3, .int l3), (4, .int (l4 + 1)), (5, .int (l5 + 1))] [2, 3, 4, 5, 1, 0] rfl ?_
  exact hk6 _ _ _ _ _ _ _ hf
set_option maxRecDepth 20000 in
theorem le_X11_copies_42 {N : Nat} {r : Int32 × AS}  {l0 : Nat} {l4 : Int32} {l6 : Int32} {s : AS} (hf : f_X11_copies_42 N l0 l4 l6 s = some r) : Le s r.2 := by
  unfold f_X11_copies_42 at hf
  obtain ⟨v10, -, hf⟩ := ob hf
  cases hf
  exact Le.rf
set_option maxRecDepth 20000 in
theorem zb_X11_copies_42 {N : Nat} {r : Int32 × AS} {E : EV} (hE : TG E (some (.int r.1)) r.2)   {l0 : Nat} {l4 : Int32} {l6 : Int32} {s : AS} (hf : f_X11_copies_42 N l0 l4 l6 s = some r) : Z E yX11_copies cX11_copies 7 (some .int) 6 s 42 [(0, .ref l0), (4, .int l4), (6, .int l6)] [] := by
  unfold f_X11_copies_42 at hf
  refine z_aload_n 0 dX11_copies_42 rfl rfl ?_
  refine z_iload 2 dX11_copies_43 rfl ?_
  obtain ⟨v10, ev10, hf⟩ := ob hf
  refine z_cVi (ci := 11) (T := TX11) (N := 14) (As := [.int l6]) (rest := []) (zm_X11_refuse ev10).2 (zm_X11_refuse ev10).1 (by decide) rfl (Or.inl rfl) mw_7_22 mw_7_23 mw_8_0 mw_1_2 mw_8_1 yk_X11_refuse (by decide) (by decide) rfl (Nat.le_of_ble_eq_true rfl) rfl dX11_copies_45 ?_
  refine z_pop dX11_copies_48 rfl ?_
  refine z_iload 1 dX11_copies_49 rfl ?_
  cases hf
  exact z_ireturn hE rfl dX11_copies_51
set_option maxRecDepth 20000 in
theorem lg_X11_copies_6 {N : Nat} {r : Int32 × AS} {k6 : Nat → Int32 → Int32 → Int32 → Int32 → Int32 → AS → Option (Int32 × AS)}  (hk6 : ∀ (l0 : Nat) (l1 : Int32) (l2 : Int32) (l3 : Int32) (l4 : Int32) (l5 : Int32) (s : AS), k6 l0 l1 l2 l3 l4 l5 s = some r → Le s r.2) {l0 : Nat} {l1 : Int32} {l2 : Int32} {l3 : Int32} {l4 : Int32} {l5 : Int32} {s : AS} (hf : g_X11_copies_6 N k6 l0 l1 l2 l3 l4 l5 s = some r) : Le s r.2 := by
  unfold g_X11_copies_6 at hf
  obtain ⟨v1, -, hf⟩ := ob hf
  obtain ⟨v2, -, hf⟩ := ob hf
  obtain ⟨v3, -, hf⟩ := ob hf
  refine ite_c hf (fun hf => ?_) (fun hf => ?_)
  · exact Le.via (le_X11_copies_84 hf) rfl
  · obtain ⟨v4, -, hf⟩ := ob hf
    obtain ⟨v5, -, hf⟩ := ob hf
    refine ite_c hf (fun hf => ?_) (fun hf => ?_)
    · refine ite_c hf (fun hf => ?_) (fun hf => ?_)
      · exact Le.via (le_X11_copies_61 hk6 hf) rfl
      · obtain ⟨v6, ev6, hf⟩ := ob hf
        refine Le.of (t := (s.1, s.2)) rfl ((lm_X11_change ev6).tr ?_)
        exact Le.via (le_X11_copies_61 hk6 hf) rfl
    · exact Le.via (le_X11_copies_42 hf) rfl
set_option maxRecDepth 20000 in
theorem le_X11_copies_6 {N : Nat} {r : Int32 × AS}  : ∀ (n : Nat) (l0 : Nat) (l1 : Int32) (l2 : Int32) (l3 : Int32) (l4 : Int32) (l5 : Int32) (s : AS), f_X11_copies_6 N n l0 l1 l2 l3 l4 l5 s = some r → Le s r.2 := by
  intro n
  induction n with
  | zero => intro l0 l1 l2 l3 l4 l5 s hf; cases hf
  | succ n ih => intro l0 l1 l2 l3 l4 l5 s hf; exact lg_X11_copies_6 ih hf
set_option maxRecDepth 20000 in
theorem zg_X11_copies_6 {N : Nat} {r : Int32 × AS} {k6 : Nat → Int32 → Int32 → Int32 → Int32 → Int32 → AS → Option (Int32 × AS)} {E : EV} (hE : TG E (some (.int r.1)) r.2)   (hk6 : ∀ (l0 : Nat) (l1 : Int32) (l2 : Int32) (l3 : Int32) (l4 : Int32) (l5 : Int32) (s : AS), k6 l0 l1 l2 l3 l4 l5 s = some r → Z E yX11_copies cX11_copies 7 (some .int) 6 s 6 [(0, .ref l0), (1, .int l1), (2, .int l2), (3, .int l3), (4, .int l4), (5, .int l5)] []) (hq6 : ∀ (l0 : Nat) (l1 : Int32) (l2 : Int32) (l3 : Int32) (l4 : Int32) (l5 : Int32) (s : AS), k6 l0 l1 l2 l3 l4 l5 s = some r → Le s r.2) {l0 : Nat} {l1 : Int32} {l2 : Int32} {l3 : Int32} {l4 : Int32} {l5 : Int32} {s : AS} (hf : g_X11_copies_6 N k6 l0 l1 l2 l3 l4 l5 s = some r) : Z E yX11_copies cX11_copies 7 (some .int) 6 s 6 [(0, .ref l0), (1, .int l1), (2, .int l2), (3, .int l3), (4, .int l4), (5, .int l5)] [] := by
  unfold g_X11_copies_6 at hf
  refine z_iload 5 dX11_copies_6 rfl ?_
  refine z_aload_n 0 dX11_copies_8 rfl rfl ?_
  refine z_gP (ci := 11) (k := 1) (C := RX11) (T := TX11) (N := 14) rfl inlX11 (by decide) mw_1_19 (fun _ _ _ _ h9 => h9) hf (by decide) rfl dX11_copies_9  (fun v1 hf => ?_)
  refine z_gP (ci := 1) (k := 2) (C := RX1) (T := TX1) (N := 8) rfl inlX1 (by decide) mw_19_21 (fun _ _ _ _ h9 => h9) hf (by decide) rfl dX11_copies_12  (fun v2 hf => ?_)
  refine z_gI (ci := 8) (k := 1) (C := RX8) (T := TX8) (N := 2) rfl inlX8 (by decide) mw_12_13 (fun _ _ _ _ h9 => h9) hf (by decide) rfl dX11_copies_15  (fun v3 hf => ?_)
  refine z_icmp_ge 84 hf dX11_copies_18 (by decide) (fun hf => ?_) (fun hf => ?_)
  · refine z_lv [(0, .ref l0), (4, .int l4)] [0, 4] rfl ?_
    exact zb_X11_copies_84 hE hf
  · refine z_aload_n 0 dX11_copies_21 rfl rfl ?_
    refine z_gP (ci := 11) (k := 1) (C := RX11) (T := TX11) (N := 14) rfl inlX11 (by decide) mw_1_19 (fun _ _ _ _ h9 => h9) hf (by decide) rfl dX11_copies_22  (fun v4 hf => ?_)
    refine z_iload 5 dX11_copies_25 rfl ?_
    refine z_iload_n 1 dX11_copies_27 rfl rfl ?_
    refine z_iload 5 dX11_copies_28 rfl ?_
    refine z_iload_n 2 dX11_copies_30 rfl rfl ?_
    refine z_iload_n 3 dX11_copies_31 rfl rfl ?_
    obtain ⟨v5, ev5, hf⟩ := ob hf
    refine z_cVi (ci := 1) (T := TX1) (N := 8) (As := [.int l5, .int l1, .int l5, .int l2, .int l3]) (rest := []) (zm_X1_whyUncopied ev5).2 (zm_X1_whyUncopied ev5).1 (by decide) rfl (Or.inl rfl) mw_25_18 mw_25_19 mw_25_20 mw_1_18 mw_25_21 yk_X1_whyUncopied (by decide) (by decide) rfl (Nat.le_of_ble_eq_true rfl) rfl dX11_copies_32 ?_
    refine z_istore [(6, .int v5), (0, .ref l0), (1, .int l1), (2, .int l2), (3, .int l3), (4, .int l4), (5, .int l5)] dX11_copies_35 (by decide) rfl ?_
    refine z_iload 0 dX11_copies_37 rfl ?_
    refine z_if_eq 52 hf dX11_copies_39 (by decide) (fun hf => ?_) (fun hf => ?_)
    · refine z_iload 5 dX11_copies_52 rfl ?_
      refine z_if_ne 61 hf dX11_copies_54 (by decide) (fun hf => ?_) (fun hf => ?_)
      · refine z_lv [(0, .ref l0), (1, .int l1), (2, .int l2), (3, .int l3), (4, .int l4), (5, .int l5)] [1, 2, 3, 4, 5, 6] rfl ?_
        exact zb_X11_copies_61 hE hk6 hq6 hf
      · refine z_aload_n 1 dX11_copies_57 rfl rfl ?_
        obtain ⟨v6, ev6, hf⟩ := ob hf
        refine z_cVv (ci := 11) (T := TX11) (N := 14) (As := []) (rest := []) (zm_X11_change ev6).2 (zm_X11_change ev6).1 (by decide) rfl (Or.inr (tg_le hE (le_X11_copies_61 hq6 hf))) mw_8_7 mw_8_8 mw_8_9 mw_1_2 mw_8_10 yk_X11_change (by decide) (by decide) rfl (Nat.le_of_ble_eq_true rfl) rfl dX11_copies_58 ?_
        refine z_lv [(0, .ref l0), (1, .int l1), (2, .int l2), (3, .int l3), (4, .int l4), (5, .int l5)] [1, 2, 3, 4, 5, 6] rfl ?_
        exact zb_X11_copies_61 hE hk6 hq6 hf
    · refine z_lv [(0, .ref l0), (4, .int l4), (6, .int v5)] [1, 5, 0] rfl ?_
      exact zb_X11_copies_42 hE hf
set_option maxRecDepth 20000 in
theorem zb_X11_copies_6 {N : Nat} {r : Int32 × AS} {E : EV} (hE : TG E (some (.int r.1)) r.2)   : ∀ (n : Nat) (l0 : Nat) (l1 : Int32) (l2 : Int32) (l3 : Int32) (l4 : Int32) (l5 : Int32) (s : AS), f_X11_copies_6 N n l0 l1 l2 l3 l4 l5 s = some r → Z E yX11_copies cX11_copies 7 (some .int) 6 s 6 [(0, .ref l0), (1, .int l1), (2, .int l2), (3, .int l3), (4, .int l4), (5, .int l5)] [] := by
  intro n
  induction n with
  | zero => intro l0 l1 l2 l3 l4 l5 s hf; cases hf
  | succ n ih => intro l0 l1 l2 l3 l4 l5 s hf; exact zg_X11_copies_6 hE ih (le_X11_copies_6 n) hf
set_option maxRecDepth 20000 in
theorem lm_X11_copies {N : Nat} {s : AS} {l0 : Nat} {l1 : Int32} {l2 : Int32} {l3 : Int32} {r : Int32 × AS} (hf : f_X11_copies N l0 l1 l2 l3 s = some r) : Le s r.2 := by
  unfold f_X11_copies at hf
  refine ite_c hf (fun hf => ?_) (fun hf => ?_)
  · skip
    exact Le.via (le_X11_copies_6 N _ _ _ _ _ _ _ hf) rfl
  · cases hf
set_option maxRecDepth 20000 in
theorem zm_X11_copies {N : Nat} {s : AS} {l0 : Nat} {l1 : Int32} {l2 : Int32} {l3 : Int32} {r : Int32 × AS} (hf : f_X11_copies N l0 l1 l2 l3 s = some r) : isO s.1 l0 11 ∧ ∀ (l : Launch) (G : GG), Mt l G yX11_copies cX11_copies 7 (some .int) 6 [.ref l0, .int l1, .int l2, .int l3] s (some (.int r.1)) r.2 := by
  have hf0 := hf
  unfold f_X11_copies at hf
  refine ite_d hf (fun hO hf => ?_) (fun _ hf => ?_)
  · refine ⟨hO, fun l G => mt_of (Or.inl (by decide)) (Nat.le_of_ble_eq_true rfl) (lm_X11_copies hf0) (fun E hE => ?_)⟩
    show Z E yX11_copies cX11_copies 7 (some .int) 6 s 0 [(0, .ref l0), (1, .int l1), (2, .int l2), (3, .int l3)] []
    refine z_iconst 0 0 dX11_copies_0 (by decide) ?_
    refine z_istore [(4, .int (0 : Int32)), (0, .ref l0), (1, .int l1), (2, .int l2), (3, .int l3)] dX11_copies_1 (by decide) rfl ?_
    refine z_iconst 0 0 dX11_copies_3 (by decide) ?_
    refine z_istore [(5, .int (0 : Int32)), (4, .int (0 : Int32)), (0, .ref l0), (1, .int l1), (2, .int l2), (3, .int l3)] dX11_copies_4 (by decide) rfl ?_
    refine z_lv [(0, .ref l0), (1, .int l1), (2, .int l2), (3, .int l3), (4, .int (0 : Int32)), (5, .int (0 : Int32))] [2, 3, 4, 5, 1, 0] rfl ?_
    exact zb_X11_copies_6 hE N _ _ _ _ _ _ _ hf
  · cases hf
set_option maxRecDepth 20000 in
theorem zb_X1_isOfShorts_18 {N : Nat} {sh : Sh} {d : Dt} {r : Int32} {E : EV} (hE : TG E (some (.int r)) (sh, d))  {t0 : Int32} (hf : f_X1_isOfShorts_18 N sh t0 d = some r) : Z E yX1_isOfShorts cX1_isOfShorts 2 (some .boolean) 2 (sh, d) 18 [] [.int t0] := by
  unfold f_X1_isOfShorts_18 at hf
  obtain ⟨v3, ev3, hg⟩ := ob hf
  obtain ⟨rfl, hbv3⟩ := o_bool_spec ev3
  cases hg
  exact z_zreturn hE rfl hbv3 dX1_isOfShorts_18
set_option maxRecDepth 20000 in
theorem zm_X1_isOfShorts {N : Nat} {sh : Sh} {d : Dt} {l0 : Nat} {l1 : Int32} {r : Int32} (hf : f_X1_isOfShorts N sh l0 l1 d = some r) : isO sh l0 1 ∧ ∀ (l : Launch) (G : GG), Mt l G yX1_isOfShorts cX1_isOfShorts 2 (some .boolean) 2 [.ref l0, .int l1] (sh, d) (some (.int r)) (sh, d) := by
  have hf0 := hf
  unfold f_X1_isOfShorts at hf
  refine ite_d hf (fun hO hf => ?_) (fun _ hf => ?_)
  · refine ⟨hO, fun l G => mt_of (Or.inl (by decide)) (Nat.le_of_ble_eq_true rfl) Le.rf (fun E hE => ?_)⟩
    show Z E yX1_isOfShorts cX1_isOfShorts 2 (some .boolean) 2 (sh, d) 0 [(0, .ref l0), (1, .int l1)] []
    refine z_aload_n 0 dX1_isOfShorts_0 rfl rfl ?_
    refine z_gP (ci := 1) (k := 2) (C := RX1) (T := TX1) (N := 8) rfl inlX1 (by decide) mw_3_15 (fun _ _ _ _ h9 => h9) hf (by decide) rfl dX1_isOfShorts_1  (fun v1 hf => ?_)
    refine z_iload_n 1 dX1_isOfShorts_4 rfl rfl ?_
    refine z_iconst 1 1 dX1_isOfShorts_5 (by decide) ?_
    obtain ⟨v2, ev2, hf⟩ := ob hf
    refine z_cVi (ci := 8) (T := TX8) (N := 2) (As := [.int l1, .int (1 : Int32)]) (rest := []) (zm_X8_get ev2).2 (zm_X8_get ev2).1 (by decide) rfl (Or.inl rfl) mw_10_10 mw_10_11 mw_10_12 mw_3_13 mw_10_13 yk_X8_get (by decide) (by decide) rfl (Nat.le_of_ble_eq_true rfl) rfl dX1_isOfShorts_6 ?_
    refine z_iconst 1 1 dX1_isOfShorts_9 (by decide) ?_
    refine z_icmp_ne 17 hf dX1_isOfShorts_10 (by decide) (fun hf => ?_) (fun hf => ?_)
    · refine z_iconst 0 0 dX1_isOfShorts_17 (by decide) ?_
      refine z_lv [] [] rfl ?_
      exact zb_X1_isOfShorts_18 hE hf
    · refine z_iconst 1 1 dX1_isOfShorts_13 (by decide) ?_
      refine z_goto 18 dX1_isOfShorts_14 (by decide) ?_
      refine z_lv [] [] rfl ?_
      exact zb_X1_isOfShorts_18 hE hf
  · cases hf
set_option maxRecDepth 20000 in
theorem le_X11_copy_47 {N : Nat} {r : Int32 × AS}  {l0 : Nat} {s : AS} (hf : f_X11_copy_47 N l0 s = some r) : Le s r.2 := by
  unfold f_X11_copy_47 at hf
  obtain ⟨v15, -, hf⟩ := ob hf
  cases hf
  exact Le.rf
set_option maxRecDepth 20000 in
theorem zb_X11_copy_47 {N : Nat} {r : Int32 × AS} {E : EV} (hE : TG E (some (.int r.1)) r.2)   {l0 : Nat} {s : AS} (hf : f_X11_copy_47 N l0 s = some r) : Z E yX11_copy cX11_copy 7 (some .int) 6 s 47 [(0, .ref l0)] [] := by
  unfold f_X11_copy_47 at hf
  refine z_aload_n 0 dX11_copy_47 rfl rfl ?_
  refine z_bipush (-2) (-2) dX11_copy_48 (by decide) ?_
  obtain ⟨v15, ev15, hf⟩ := ob hf
  refine z_cVi (ci := 11) (T := TX11) (N := 14) (As := [.int (-2 : Int32)]) (rest := []) (zm_X11_refuse ev15).2 (zm_X11_refuse ev15).1 (by decide) rfl (Or.inl rfl) mw_7_22 mw_7_23 mw_8_0 mw_1_2 mw_8_1 yk_X11_refuse (by decide) (by decide) rfl (Nat.le_of_ble_eq_true rfl) rfl dX11_copy_50 ?_
  cases hf
  exact z_ireturn hE rfl dX11_copy_53
set_option maxRecDepth 20000 in
theorem le_X11_copy_86 {N : Nat} {r : Int32 × AS}  {l0 : Nat} {l1 : Int32} {l2 : Int32} {l3 : Int32} {l4 : Int32} {l5 : Int32} {s : AS} (hf : f_X11_copy_86 N l0 l1 l2 l3 l4 l5 s = some r) : Le s r.2 := by
  unfold f_X11_copy_86 at hf
  obtain ⟨v16, -, hf⟩ := ob hf
  obtain ⟨v17, -, hf⟩ := ob hf
  obtain ⟨v18, -, hf⟩ := ob hf
  cases hf
  exact Le.rf
set_option maxRecDepth 20000 in
theorem zb_X11_copy_86 {N : Nat} {r : Int32 × AS} {E : EV} (hE : TG E (some (.int r.1)) r.2)   {l0 : Nat} {l1 : Int32} {l2 : Int32} {l3 : Int32} {l4 : Int32} {l5 : Int32} {s : AS} (hf : f_X11_copy_86 N l0 l1 l2 l3 l4 l5 s = some r) : Z E yX11_copy cX11_copy 7 (some .int) 6 s 86 [(0, .ref l0), (1, .int l1), (2, .int l2), (3, .int l3), (4, .int l4), (5, .int l5)] [] := by
  unfold f_X11_copy_86 at hf
  refine z_aload_n 0 dX11_copy_86 rfl rfl ?_
  refine z_gP (ci := 11) (k := 1) (C := RX11) (T := TX11) (N := 14) rfl inlX11 (by decide) mw_1_19 (fun _ _ _ _ h9 => h9) hf (by decide) rfl dX11_copy_87  (fun v16 hf => ?_)
  refine z_iload_n 1 dX11_copy_90 rfl rfl ?_
  refine z_iload_n 2 dX11_copy_91 rfl rfl ?_
  refine z_iload_n 3 dX11_copy_92 rfl rfl ?_
  refine z_iload 4 dX11_copy_93 rfl ?_
  refine z_iload 5 dX11_copy_95 rfl ?_
  obtain ⟨v17, ev17, hf⟩ := ob hf
  refine z_cVv (ci := 1) (T := TX1) (N := 8) (As := [.int l1, .int l2, .int l3, .int l4, .int l5]) (rest := []) (zm_X1_copyReadings ev17).2 (zm_X1_copyReadings ev17).1 (by decide) rfl (Or.inl rfl) mw_26_2 mw_26_3 mw_26_4 mw_1_18 mw_26_5 yk_X1_copyReadings (by decide) (by decide) rfl (Nat.le_of_ble_eq_true rfl) rfl dX11_copy_97 ?_
  refine z_aload_n 0 dX11_copy_100 rfl rfl ?_
  refine z_iconst 1 1 dX11_copy_101 (by decide) ?_
  obtain ⟨v18, ev18, hf⟩ := ob hf
  refine z_cVi (ci := 11) (T := TX11) (N := 14) (As := [.int (1 : Int32)]) (rest := []) (zm_X11_answer ev18).2 (zm_X11_answer ev18).1 (by decide) rfl (Or.inl rfl) mw_11_2 mw_11_3 mw_11_4 mw_1_2 mw_11_5 yk_X11_answer (by decide) (by decide) rfl (Nat.le_of_ble_eq_true rfl) rfl dX11_copy_102 ?_
  cases hf
  exact z_ireturn hE rfl dX11_copy_105
set_option maxRecDepth 20000 in
theorem lm_X11_copy {N : Nat} {s : AS} {l0 : Nat} {l1 : Int32} {l2 : Int32} {l3 : Int32} {l4 : Int32} {l5 : Int32} {r : Int32 × AS} (hf : f_X11_copy N l0 l1 l2 l3 l4 l5 s = some r) : Le s r.2 := by
  unfold f_X11_copy at hf
  refine ite_c hf (fun hf => ?_) (fun hf => ?_)
  · skip
    obtain ⟨v1, -, hf⟩ := ob hf
    obtain ⟨v2, -, hf⟩ := ob hf
    obtain ⟨v3, -, hf⟩ := ob hf
    refine ite_c hf (fun hf => ?_) (fun hf => ?_)
    · exact Le.via (le_X11_copy_47 hf) rfl
    · obtain ⟨v4, -, hf⟩ := ob hf
      obtain ⟨v5, -, hf⟩ := ob hf
      obtain ⟨v6, -, hf⟩ := ob hf
      refine ite_c hf (fun hf => ?_) (fun hf => ?_)
      · exact Le.via (le_X11_copy_47 hf) rfl
      · obtain ⟨v7, -, hf⟩ := ob hf
        obtain ⟨v8, -, hf⟩ := ob hf
        obtain ⟨v9, -, hf⟩ := ob hf
        obtain ⟨v10, -, hf⟩ := ob hf
        refine ite_c hf (fun hf => ?_) (fun hf => ?_)
        · obtain ⟨v11, -, hf⟩ := ob hf
          obtain ⟨v12, -, hf⟩ := ob hf
          refine ite_c hf (fun hf => ?_) (fun hf => ?_)
          · obtain ⟨v13, ev13, hf⟩ := ob hf
            refine Le.of (t := (s.1, s.2)) rfl ((lm_X11_change ev13).tr ?_)
            exact Le.via (le_X11_copy_86 hf) rfl
          · obtain ⟨v14, -, hf⟩ := ob hf
            cases hf
            exact Le.rf
        · exact Le.via (le_X11_copy_47 hf) rfl
  · cases hf
set_option maxRecDepth 20000 in
theorem zm_X11_copy {N : Nat} {s : AS} {l0 : Nat} {l1 : Int32} {l2 : Int32} {l3 : Int32} {l4 : Int32} {l5 : Int32} {r : Int32 × AS} (hf : f_X11_copy N l0 l1 l2 l3 l4 l5 s = some r) : isO s.1 l0 11 ∧ ∀ (l : Launch) (G : GG), Mt l G yX11_copy cX11_copy 7 (some .int) 6 [.ref l0, .int l1, .int l2, .int l3, .int l4, .int l5] s (some (.int r.1)) r.2 := by
  have hf0 := hf
  unfold f_X11_copy at hf
  refine ite_d hf (fun hO hf => ?_) (fun _ hf => ?_)
  · refine ⟨hO, fun l G => mt_of (Or.inl (by decide)) (Nat.le_of_ble_eq_true rfl) (lm_X11_copy hf0) (fun E hE => ?_)⟩
    show Z E yX11_copy cX11_copy 7 (some .int) 6 s 0 [(0, .ref l0), (1, .int l1), (2, .int l2), (3, .int l3), (4, .int l4), (5, .int l5)] []
    refine z_aload_n 0 dX11_copy_0 rfl rfl ?_
    refine z_gP (ci := 11) (k := 1) (C := RX11) (T := TX11) (N := 14) rfl inlX11 (by decide) mw_1_19 (fun _ _ _ _ h9 => h9) hf (by decide) rfl dX11_copy_1  (fun v1 hf => ?_)
    refine z_gP (ci := 1) (k := 2) (C := RX1) (T := TX1) (N := 8) rfl inlX1 (by decide) mw_19_21 (fun _ _ _ _ h9 => h9) hf (by decide) rfl dX11_copy_4  (fun v2 hf => ?_)
    refine z_iload_n 1 dX11_copy_7 rfl rfl ?_
    obtain ⟨v3, ev3, hf⟩ := ob hf
    refine z_cVi (ci := 8) (T := TX8) (N := 2) (As := [.int l1]) (rest := []) (zm_X8_has ev3).2 (zm_X8_has ev3).1 (by decide) rfl (Or.inl rfl) mw_13_22 mw_13_23 mw_14_0 mw_3_13 mw_14_1 yk_X8_has (by decide) (by decide) rfl (Nat.le_of_ble_eq_true rfl) rfl dX11_copy_8 ?_
    refine z_if_eq 47 hf dX11_copy_11 (by decide) (fun hf => ?_) (fun hf => ?_)
    · refine z_lv [(0, .ref l0)] [0] rfl ?_
      exact zb_X11_copy_47 hE hf
    · refine z_aload_n 0 dX11_copy_14 rfl rfl ?_
      refine z_gP (ci := 11) (k := 1) (C := RX11) (T := TX11) (N := 14) rfl inlX11 (by decide) mw_1_19 (fun _ _ _ _ h9 => h9) hf (by decide) rfl dX11_copy_15  (fun v4 hf => ?_)
      refine z_gP (ci := 1) (k := 2) (C := RX1) (T := TX1) (N := 8) rfl inlX1 (by decide) mw_19_21 (fun _ _ _ _ h9 => h9) hf (by decide) rfl dX11_copy_18  (fun v5 hf => ?_)
      refine z_iload_n 3 dX11_copy_21 rfl rfl ?_
      obtain ⟨v6, ev6, hf⟩ := ob hf
      refine z_cVi (ci := 8) (T := TX8) (N := 2) (As := [.int l3]) (rest := []) (zm_X8_has ev6).2 (zm_X8_has ev6).1 (by decide) rfl (Or.inl rfl) mw_13_22 mw_13_23 mw_14_0 mw_3_13 mw_14_1 yk_X8_has (by decide) (by decide) rfl (Nat.le_of_ble_eq_true rfl) rfl dX11_copy_22 ?_
      refine z_if_eq 47 hf dX11_copy_25 (by decide) (fun hf => ?_) (fun hf => ?_)
      · refine z_lv [(0, .ref l0)] [0] rfl ?_
        exact zb_X11_copy_47 hE hf
      · refine z_aload_n 0 dX11_copy_28 rfl rfl ?_
        refine z_gP (ci := 11) (k := 1) (C := RX11) (T := TX11) (N := 14) rfl inlX11 (by decide) mw_1_19 (fun _ _ _ _ h9 => h9) hf (by decide) rfl dX11_copy_29  (fun v7 hf => ?_)
        refine z_iload_n 1 dX11_copy_32 rfl rfl ?_
        obtain ⟨v8, ev8, hf⟩ := ob hf
        refine z_cVi (ci := 1) (T := TX1) (N := 8) (As := [.int l1]) (rest := []) (zm_X1_isOfShorts ev8).2 (zm_X1_isOfShorts ev8).1 (by decide) rfl (Or.inl rfl) mw_22_5 mw_22_6 mw_22_7 mw_1_18 mw_22_8 yk_X1_isOfShorts (by decide) (by decide) rfl (Nat.le_of_ble_eq_true rfl) rfl dX11_copy_33 ?_
        refine z_aload_n 0 dX11_copy_36 rfl rfl ?_
        refine z_gP (ci := 11) (k := 1) (C := RX11) (T := TX11) (N := 14) rfl inlX11 (by decide) mw_1_19 (fun _ _ _ _ h9 => h9) hf (by decide) rfl dX11_copy_37  (fun v9 hf => ?_)
        refine z_iload_n 3 dX11_copy_40 rfl rfl ?_
        obtain ⟨v10, ev10, hf⟩ := ob hf
        refine z_cVi (ci := 1) (T := TX1) (N := 8) (As := [.int l3]) (rest := [.int v8]) (zm_X1_isOfShorts ev10).2 (zm_X1_isOfShorts ev10).1 (by decide) rfl (Or.inl rfl) mw_22_5 mw_22_6 mw_22_7 mw_1_18 mw_22_8 yk_X1_isOfShorts (by decide) (by decide) rfl (Nat.le_of_ble_eq_true rfl) rfl dX11_copy_41 ?_
        refine z_icmp_eq 54 hf dX11_copy_44 (by decide) (fun hf => ?_) (fun hf => ?_)
        · refine z_aload_n 0 dX11_copy_54 rfl rfl ?_
          refine z_gP (ci := 11) (k := 1) (C := RX11) (T := TX11) (N := 14) rfl inlX11 (by decide) mw_1_19 (fun _ _ _ _ h9 => h9) hf (by decide) rfl dX11_copy_55  (fun v11 hf => ?_)
          refine z_iload_n 1 dX11_copy_58 rfl rfl ?_
          refine z_iload_n 2 dX11_copy_59 rfl rfl ?_
          refine z_iload_n 3 dX11_copy_60 rfl rfl ?_
          refine z_iload 4 dX11_copy_61 rfl ?_
          refine z_iload 5 dX11_copy_63 rfl ?_
          obtain ⟨v12, ev12, hf⟩ := ob hf
          refine z_cVi (ci := 1) (T := TX1) (N := 8) (As := [.int l1, .int l2, .int l3, .int l4, .int l5]) (rest := []) (zm_X1_whyUncopied ev12).2 (zm_X1_whyUncopied ev12).1 (by decide) rfl (Or.inl rfl) mw_25_18 mw_25_19 mw_25_20 mw_1_18 mw_25_21 yk_X1_whyUncopied (by decide) (by decide) rfl (Nat.le_of_ble_eq_true rfl) rfl dX11_copy_65 ?_
          refine z_istore [(6, .int v12), (0, .ref l0), (1, .int l1), (2, .int l2), (3, .int l3), (4, .int l4), (5, .int l5)] dX11_copy_68 (by decide) rfl ?_
          refine z_iload 0 dX11_copy_70 rfl ?_
          refine z_if_eq 82 hf dX11_copy_72 (by decide) (fun hf => ?_) (fun hf => ?_)
          · refine z_aload_n 1 dX11_copy_82 rfl rfl ?_
            obtain ⟨v13, ev13, hf⟩ := ob hf
            refine z_cVv (ci := 11) (T := TX11) (N := 14) (As := []) (rest := []) (zm_X11_change ev13).2 (zm_X11_change ev13).1 (by decide) rfl (Or.inr (tg_le hE (le_X11_copy_86 hf))) mw_8_7 mw_8_8 mw_8_9 mw_1_2 mw_8_10 yk_X11_change (by decide) (by decide) rfl (Nat.le_of_ble_eq_true rfl) rfl dX11_copy_83 ?_
            refine z_lv [(0, .ref l0), (1, .int l1), (2, .int l2), (3, .int l3), (4, .int l4), (5, .int l5)] [1, 2, 3, 4, 5, 6] rfl ?_
            exact zb_X11_copy_86 hE hf
          · refine z_aload_n 1 dX11_copy_75 rfl rfl ?_
            refine z_iload 0 dX11_copy_76 rfl ?_
            obtain ⟨v14, ev14, hf⟩ := ob hf
            refine z_cVi (ci := 11) (T := TX11) (N := 14) (As := [.int v12]) (rest := []) (zm_X11_refuse ev14).2 (zm_X11_refuse ev14).1 (by decide) rfl (Or.inl rfl) mw_7_22 mw_7_23 mw_8_0 mw_1_2 mw_8_1 yk_X11_refuse (by decide) (by decide) rfl (Nat.le_of_ble_eq_true rfl) rfl dX11_copy_78 ?_
            cases hf
            exact z_ireturn hE rfl dX11_copy_81
        · refine z_lv [(0, .ref l0)] [0] rfl ?_
          exact zb_X11_copy_47 hE hf
  · cases hf
set_option maxRecDepth 20000 in
theorem zm_X11_count {N : Nat} {sh : Sh} {d : Dt} {l0 : Nat} {l1 : Int32} {r : Int32} (hf : f_X11_count N sh l0 l1 d = some r) : isO sh l0 11 ∧ ∀ (l : Launch) (G : GG), Mt l G yX11_count cX11_count 2 (some .int) 1 [.ref l0, .int l1] (sh, d) (some (.int r)) (sh, d) := by
  have hf0 := hf
  unfold f_X11_count at hf
  refine ite_d hf (fun hO hf => ?_) (fun _ hf => ?_)
  · refine ⟨hO, fun l G => mt_of (Or.inl (by decide)) (Nat.le_of_ble_eq_true rfl) Le.rf (fun E hE => ?_)⟩
    show Z E yX11_count cX11_count 2 (some .int) 1 (sh, d) 0 [(0, .ref l0), (1, .int l1)] []
    refine z_iload_n 1 dX11_count_0 rfl rfl ?_
    refine z_tabc (v := 0) 31 32 hf dX11_count_1 (by decide) (by decide) rfl (by decide) (fun hf => ?_) (fun n3 hf => ?_)
    · refine z_aload_n 0 dX11_count_32 rfl rfl ?_
      refine z_gP (ci := 11) (k := 1) (C := RX11) (T := TX11) (N := 14) rfl inlX11 (by decide) mw_1_19 (fun _ _ _ _ h9 => h9) hf (by decide) rfl dX11_count_33  (fun v1 hf => ?_)
      refine z_gI (ci := 1) (k := 0) (C := RX1) (T := TX1) (N := 8) rfl inlX1 (by decide) mw_7_21 (fun _ _ _ _ h9 => h9) hf (by decide) rfl dX11_count_36  (fun v2 hf => ?_)
      cases hf
      exact z_ireturn hE rfl dX11_count_39
    refine z_tabc (v := 1) 39 40 hf dX11_count_1 (by decide) (by decide) rfl (by decide) (fun hf => ?_) (fun n7 hf => ?_)
    · refine z_aload_n 0 dX11_count_40 rfl rfl ?_
      refine z_gP (ci := 11) (k := 1) (C := RX11) (T := TX11) (N := 14) rfl inlX11 (by decide) mw_1_19 (fun _ _ _ _ h9 => h9) hf (by decide) rfl dX11_count_41  (fun v4 hf => ?_)
      refine z_gP (ci := 1) (k := 1) (C := RX1) (T := TX1) (N := 8) rfl inlX1 (by decide) mw_12_12 (fun _ _ _ _ h9 => h9) hf (by decide) rfl dX11_count_44  (fun v5 hf => ?_)
      refine z_gI (ci := 8) (k := 1) (C := RX8) (T := TX8) (N := 2) rfl inlX8 (by decide) mw_12_13 (fun _ _ _ _ h9 => h9) hf (by decide) rfl dX11_count_47  (fun v6 hf => ?_)
      cases hf
      exact z_ireturn hE rfl dX11_count_50
    refine z_tabc (v := 2) 50 51 hf dX11_count_1 (by decide) (by decide) rfl (by decide) (fun hf => ?_) (fun n11 hf => ?_)
    · refine z_aload_n 0 dX11_count_51 rfl rfl ?_
      refine z_gP (ci := 11) (k := 1) (C := RX11) (T := TX11) (N := 14) rfl inlX11 (by decide) mw_1_19 (fun _ _ _ _ h9 => h9) hf (by decide) rfl dX11_count_52  (fun v8 hf => ?_)
      refine z_gP (ci := 1) (k := 2) (C := RX1) (T := TX1) (N := 8) rfl inlX1 (by decide) mw_19_21 (fun _ _ _ _ h9 => h9) hf (by decide) rfl dX11_count_55  (fun v9 hf => ?_)
      refine z_gI (ci := 8) (k := 1) (C := RX8) (T := TX8) (N := 2) rfl inlX8 (by decide) mw_12_13 (fun _ _ _ _ h9 => h9) hf (by decide) rfl dX11_count_58  (fun v10 hf => ?_)
      cases hf
      exact z_ireturn hE rfl dX11_count_61
    refine z_tabc (v := 3) 61 62 hf dX11_count_1 (by decide) (by decide) rfl (by decide) (fun hf => ?_) (fun n15 hf => ?_)
    · refine z_aload_n 0 dX11_count_62 rfl rfl ?_
      refine z_gP (ci := 11) (k := 1) (C := RX11) (T := TX11) (N := 14) rfl inlX11 (by decide) mw_1_19 (fun _ _ _ _ h9 => h9) hf (by decide) rfl dX11_count_63  (fun v12 hf => ?_)
      refine z_gP (ci := 1) (k := 3) (C := RX1) (T := TX1) (N := 8) rfl inlX1 (by decide) mw_29_16 (fun _ _ _ _ h9 => h9) hf (by decide) rfl dX11_count_66  (fun v13 hf => ?_)
      refine z_gI (ci := 8) (k := 1) (C := RX8) (T := TX8) (N := 2) rfl inlX8 (by decide) mw_12_13 (fun _ _ _ _ h9 => h9) hf (by decide) rfl dX11_count_69  (fun v14 hf => ?_)
      cases hf
      exact z_ireturn hE rfl dX11_count_72
    refine z_tabd 73 dX11_count_1 (by have qn3 := tab_out 0 (by decide) n3; have qn7 := tab_out 1 (by decide) n7; have qn11 := tab_out 2 (by decide) n11; have qn15 := tab_out 3 (by decide) n15; omega) (by decide) ?_
    refine z_bipush (-2) (-2) dX11_count_73 (by decide) ?_
    cases hf
    exact z_ireturn hE rfl dX11_count_75
  · cases hf
set_option maxRecDepth 20000 in
theorem le_X11_crossings_11 {N : Nat} {r : Int32 × AS}  {l0 : Nat} {s : AS} (hf : f_X11_crossings_11 N l0 s = some r) : Le s r.2 := by
  unfold f_X11_crossings_11 at hf
  obtain ⟨v5, -, hf⟩ := ob hf
  cases hf
  exact Le.rf
set_option maxRecDepth 20000 in
theorem zb_X11_crossings_11 {N : Nat} {r : Int32 × AS} {E : EV} (hE : TG E (some (.int r.1)) r.2)   {l0 : Nat} {s : AS} (hf : f_X11_crossings_11 N l0 s = some r) : Z E yX11_crossings cX11_crossings 2 (some .int) 6 s 11 [(0, .ref l0)] [] := by
  unfold f_X11_crossings_11 at hf
  refine z_aload_n 0 dX11_crossings_11 rfl rfl ?_
  refine z_bipush (-2) (-2) dX11_crossings_12 (by decide) ?_
  obtain ⟨v5, ev5, hf⟩ := ob hf
  refine z_cVi (ci := 11) (T := TX11) (N := 14) (As := [.int (-2 : Int32)]) (rest := []) (zm_X11_refuse ev5).2 (zm_X11_refuse ev5).1 (by decide) rfl (Or.inl rfl) mw_7_22 mw_7_23 mw_8_0 mw_1_2 mw_8_1 yk_X11_refuse (by decide) (by decide) rfl (Nat.le_of_ble_eq_true rfl) rfl dX11_crossings_14 ?_
  cases hf
  exact z_ireturn hE rfl dX11_crossings_17
set_option maxRecDepth 20000 in
theorem le_X11_crossings_43 {N : Nat} {r : Int32 × AS}  {l0 : Nat} {l1 : Int32} {s : AS} (hf : f_X11_crossings_43 N l0 l1 s = some r) : Le s r.2 := by
  unfold f_X11_crossings_43 at hf
  obtain ⟨v6, -, hf⟩ := ob hf
  obtain ⟨v7, -, hf⟩ := ob hf
  obtain ⟨d8, -, hf⟩ := ob hf
  obtain ⟨v9, -, hf⟩ := ob hf
  obtain ⟨v10, -, hf⟩ := ob hf
  obtain ⟨v11, -, hf⟩ := ob hf
  cases hf
  exact Le.rf
set_option maxRecDepth 20000 in
theorem zb_X11_crossings_43 {N : Nat} {r : Int32 × AS} {E : EV} (hE : TG E (some (.int r.1)) r.2)   {l0 : Nat} {l1 : Int32} {s : AS} (hf : f_X11_crossings_43 N l0 l1 s = some r) : Z E yX11_crossings cX11_crossings 2 (some .int) 6 s 43 [(0, .ref l0), (1, .int l1)] [] := by
  unfold f_X11_crossings_43 at hf
  refine z_aload_n 0 dX11_crossings_43 rfl rfl ?_
  refine z_gP (ci := 11) (k := 1) (C := RX11) (T := TX11) (N := 14) rfl inlX11 (by decide) mw_1_19 (fun _ _ _ _ h9 => h9) hf (by decide) rfl dX11_crossings_44  (fun v6 hf => ?_)
  refine z_dup dX11_crossings_47 rfl ?_
  refine z_gI (ci := 1) (k := 0) (C := RX1) (T := TX1) (N := 8) rfl inlX1 (by decide) mw_7_21 (fun _ _ _ _ h9 => h9) hf (by decide) rfl dX11_crossings_48  (fun v7 hf => ?_)
  refine z_iload_n 1 dX11_crossings_51 rfl rfl ?_
  refine z_iadd dX11_crossings_52 ?_
  refine z_pI (ci := 1) (k := 0) (C := RX1) (T := TX1) (N := 8) rfl inlX1 (by decide) mw_7_21 (fun _ _ _ _ h9 => h9) tyX1 tyX1_ok nmX1 rfl hf (Or.inl (by decide)) rfl rfl rfl dX11_crossings_53  (fun d8 hf => ?_)
  refine z_aload_n 0 dX11_crossings_56 rfl rfl ?_
  refine z_aload_n 0 dX11_crossings_57 rfl rfl ?_
  refine z_gP (ci := 11) (k := 1) (C := RX11) (T := TX11) (N := 14) rfl inlX11 (by decide) mw_1_19 (fun _ _ _ _ h9 => h9) hf (by decide) rfl dX11_crossings_58  (fun v9 hf => ?_)
  refine z_gI (ci := 1) (k := 0) (C := RX1) (T := TX1) (N := 8) rfl inlX1 (by decide) mw_7_21 (fun _ _ _ _ h9 => h9) hf (by decide) rfl dX11_crossings_61  (fun v10 hf => ?_)
  obtain ⟨v11, ev11, hf⟩ := ob hf
  refine z_cVi (ci := 11) (T := TX11) (N := 14) (As := [.int v10]) (rest := []) (zm_X11_answer ev11).2 (zm_X11_answer ev11).1 (by decide) rfl (Or.inl rfl) mw_11_2 mw_11_3 mw_11_4 mw_1_2 mw_11_5 yk_X11_answer (by decide) (by decide) rfl (Nat.le_of_ble_eq_true rfl) rfl dX11_crossings_64 ?_
  cases hf
  exact z_ireturn hE rfl dX11_crossings_67
set_option maxRecDepth 20000 in
theorem lm_X11_crossings {N : Nat} {s : AS} {l0 : Nat} {l1 : Int32} {r : Int32 × AS} (hf : f_X11_crossings N l0 l1 s = some r) : Le s r.2 := by
  unfold f_X11_crossings at hf
  refine ite_c hf (fun hf => ?_) (fun hf => ?_)
  · skip
    refine ite_c hf (fun hf => ?_) (fun hf => ?_)
    · exact Le.via (le_X11_crossings_11 hf) rfl
    · refine ite_c hf (fun hf => ?_) (fun hf => ?_)
      · obtain ⟨v1, -, hf⟩ := ob hf
        obtain ⟨v2, -, hf⟩ := ob hf
        refine ite_c hf (fun hf => ?_) (fun hf => ?_)
        · obtain ⟨v3, ev3, hf⟩ := ob hf
          refine Le.of (t := (s.1, s.2)) rfl ((lm_X11_change ev3).tr ?_)
          exact Le.via (le_X11_crossings_43 hf) rfl
        · obtain ⟨v4, -, hf⟩ := ob hf
          cases hf
          exact Le.rf
      · exact Le.via (le_X11_crossings_11 hf) rfl
  · cases hf
set_option maxRecDepth 20000 in
theorem zm_X11_crossings {N : Nat} {s : AS} {l0 : Nat} {l1 : Int32} {r : Int32 × AS} (hf : f_X11_crossings N l0 l1 s = some r) : isO s.1 l0 11 ∧ ∀ (l : Launch) (G : GG), Mt l G yX11_crossings cX11_crossings 2 (some .int) 6 [.ref l0, .int l1] s (some (.int r.1)) r.2 := by
  have hf0 := hf
  unfold f_X11_crossings at hf
  refine ite_d hf (fun hO hf => ?_) (fun _ hf => ?_)
  · refine ⟨hO, fun l G => mt_of (Or.inl (by decide)) (Nat.le_of_ble_eq_true rfl) (lm_X11_crossings hf0) (fun E hE => ?_)⟩
    show Z E yX11_crossings cX11_crossings 2 (some .int) 6 s 0 [(0, .ref l0), (1, .int l1)] []
    refine z_iload_n 1 dX11_crossings_0 rfl rfl ?_
    refine z_iconst 1 1 dX11_crossings_1 (by decide) ?_
    refine z_icmp_lt 11 hf dX11_crossings_2 (by decide) (fun hf => ?_) (fun hf => ?_)
    · refine z_lv [(0, .ref l0)] [0] rfl ?_
      exact zb_X11_crossings_11 hE hf
    · refine z_iload_n 1 dX11_crossings_5 rfl rfl ?_
      refine z_bipush 20 20 dX11_crossings_6 (by decide) ?_
      refine z_icmp_le 18 hf dX11_crossings_8 (by decide) (fun hf => ?_) (fun hf => ?_)
      · refine z_aload_n 0 dX11_crossings_18 rfl rfl ?_
        refine z_gP (ci := 11) (k := 1) (C := RX11) (T := TX11) (N := 14) rfl inlX11 (by decide) mw_1_19 (fun _ _ _ _ h9 => h9) hf (by decide) rfl dX11_crossings_19  (fun v1 hf => ?_)
        refine z_gI (ci := 1) (k := 0) (C := RX1) (T := TX1) (N := 8) rfl inlX1 (by decide) mw_7_21 (fun _ _ _ _ h9 => h9) hf (by decide) rfl dX11_crossings_22  (fun v2 hf => ?_)
        refine z_iload_n 1 dX11_crossings_25 rfl rfl ?_
        refine z_iadd dX11_crossings_26 ?_
        refine z_bipush 60 60 dX11_crossings_27 (by decide) ?_
        refine z_icmp_le 39 hf dX11_crossings_29 (by decide) (fun hf => ?_) (fun hf => ?_)
        · refine z_aload_n 0 dX11_crossings_39 rfl rfl ?_
          obtain ⟨v3, ev3, hf⟩ := ob hf
          refine z_cVv (ci := 11) (T := TX11) (N := 14) (As := []) (rest := []) (zm_X11_change ev3).2 (zm_X11_change ev3).1 (by decide) rfl (Or.inr (tg_le hE (le_X11_crossings_43 hf))) mw_8_7 mw_8_8 mw_8_9 mw_1_2 mw_8_10 yk_X11_change (by decide) (by decide) rfl (Nat.le_of_ble_eq_true rfl) rfl dX11_crossings_40 ?_
          exact zb_X11_crossings_43 hE hf
        · refine z_aload_n 0 dX11_crossings_32 rfl rfl ?_
          refine z_bipush (-3) (-3) dX11_crossings_33 (by decide) ?_
          obtain ⟨v4, ev4, hf⟩ := ob hf
          refine z_cVi (ci := 11) (T := TX11) (N := 14) (As := [.int (-3 : Int32)]) (rest := []) (zm_X11_refuse ev4).2 (zm_X11_refuse ev4).1 (by decide) rfl (Or.inl rfl) mw_7_22 mw_7_23 mw_8_0 mw_1_2 mw_8_1 yk_X11_refuse (by decide) (by decide) rfl (Nat.le_of_ble_eq_true rfl) rfl dX11_crossings_35 ?_
          cases hf
          exact z_ireturn hE rfl dX11_crossings_38
      · refine z_lv [(0, .ref l0)] [0] rfl ?_
        exact zb_X11_crossings_11 hE hf
  · cases hf
set_option maxRecDepth 20000 in
theorem zb_X8_digestOf_52 {N : Nat} {sh : Sh} {d : Dt} {r : Int32} {E : EV} (hE : TG E (some (.int r)) (sh, d))  {l2 : Int32} (hf : f_X8_digestOf_52 N sh l2 d = some r) : Z E yX8_digestOf cX8_digestOf 5 (some .int) 1 (sh, d) 52 [(2, .int l2)] [] := by
  unfold f_X8_digestOf_52 at hf
  refine z_iload_n 0 dX8_digestOf_52 rfl rfl ?_
  cases hf
  exact z_ireturn hE rfl dX8_digestOf_53
set_option maxRecDepth 20000 in
theorem zb_X8_digestOf_46 {N : Nat} {sh : Sh} {d : Dt} {k4 : Nat → Int32 → Int32 → Option Int32} {r : Int32} {E : EV} (hE : TG E (some (.int r)) (sh, d)) (hk4 : ∀ (l0 : Nat) (l2 : Int32) (l3 : Int32), k4 l0 l2 l3 = some r → Z E yX8_digestOf cX8_digestOf 5 (some .int) 1 (sh, d) 4 [(0, .ref l0), (2, .int l2), (3, .int l3)] []) {l0 : Nat} {l2 : Int32} {l3 : Int32} (hf : f_X8_digestOf_46 N sh k4 l0 l2 l3 d = some r) : Z E yX8_digestOf cX8_digestOf 5 (some .int) 1 (sh, d) 46 [(0, .ref l0), (2, .int l2), (3, .int l3)] [] := by
  unfold f_X8_digestOf_46 at hf
  refine z_iinc [(3, .int (l3 + 1)), (0, .ref l0), (2, .int l2)] 2 (l3 + 1) dX8_digestOf_46 rfl rfl (by decide) rfl ?_
  refine z_goto 4 dX8_digestOf_49 (by decide) ?_
  refine z_lv [(0, .ref l0), (2, .int l2), (3, .int (l3 + 1))] [1, 2, 0] rfl ?_
  exact hk4 _ _ _ hf
set_option maxRecDepth 20000 in
theorem zg_X8_digestOf_15 {N : Nat} {sh : Sh} {d : Dt} {k4 : Nat → Int32 → Int32 → Option Int32} {r : Int32} {k15 : Nat → Int32 → Int32 → Int32 → Option Int32} {E : EV} (hE : TG E (some (.int r)) (sh, d)) (hk4 : ∀ (l0 : Nat) (l2 : Int32) (l3 : Int32), k4 l0 l2 l3 = some r → Z E yX8_digestOf cX8_digestOf 5 (some .int) 1 (sh, d) 4 [(0, .ref l0), (2, .int l2), (3, .int l3)] []) (hk15 : ∀ (l0 : Nat) (l2 : Int32) (l3 : Int32) (l4 : Int32), k15 l0 l2 l3 l4 = some r → Z E yX8_digestOf cX8_digestOf 5 (some .int) 1 (sh, d) 15 [(0, .ref l0), (2, .int l2), (3, .int l3), (4, .int l4)] []) {l0 : Nat} {l2 : Int32} {l3 : Int32} {l4 : Int32} (hf : g_X8_digestOf_15 N sh k4 k15 l0 l2 l3 l4 d = some r) : Z E yX8_digestOf cX8_digestOf 5 (some .int) 1 (sh, d) 15 [(0, .ref l0), (2, .int l2), (3, .int l3), (4, .int l4)] [] := by
  unfold g_X8_digestOf_15 at hf
  refine z_iload 3 dX8_digestOf_15 rfl ?_
  refine z_aload_n 0 dX8_digestOf_17 rfl rfl ?_
  refine z_gP (ci := 8) (k := 0) (C := RX8) (T := TX8) (N := 2) rfl inlX8 (by decide) mw_4_4 (fun _ _ _ _ h9 => h9) hf (by decide) rfl dX8_digestOf_18  (fun v2 hf => ?_)
  refine z_aLen hf dX8_digestOf_21  (fun v3 hf => ?_)
  refine z_icmp_ge 46 hf dX8_digestOf_22 (by decide) (fun hf => ?_) (fun hf => ?_)
  · refine z_lv [(0, .ref l0), (2, .int l2), (3, .int l3)] [0, 1, 2] rfl ?_
    exact zb_X8_digestOf_46 hE hk4 hf
  · refine z_bipush 31 31 dX8_digestOf_25 (by decide) ?_
    refine z_iload_n 1 dX8_digestOf_27 rfl rfl ?_
    refine z_imul dX8_digestOf_28 ?_
    refine z_aload_n 0 dX8_digestOf_29 rfl rfl ?_
    refine z_gP (ci := 8) (k := 0) (C := RX8) (T := TX8) (N := 2) rfl inlX8 (by decide) mw_4_4 (fun _ _ _ _ h9 => h9) hf (by decide) rfl dX8_digestOf_30  (fun v4 hf => ?_)
    refine z_iload 3 dX8_digestOf_33 rfl ?_
    refine z_aR hf dX8_digestOf_35  (fun v5 hf => ?_)
    refine z_iload_n 2 dX8_digestOf_36 rfl rfl ?_
    refine z_aI hf dX8_digestOf_37  (fun v6 hf => ?_)
    refine z_iadd dX8_digestOf_38 ?_
    refine z_istore_n [(2, .int (((31 : Int32) * l2) + v6)), (0, .ref l0), (3, .int l3), (4, .int l4)] dX8_digestOf_39 rfl (by decide) rfl ?_
    refine z_iinc [(4, .int (l4 + 1)), (2, .int (((31 : Int32) * l2) + v6)), (0, .ref l0), (3, .int l3)] 3 (l4 + 1) dX8_digestOf_40 rfl rfl (by decide) rfl ?_
    refine z_goto 15 dX8_digestOf_43 (by decide) ?_
    refine z_lv [(0, .ref l0), (2, .int (((31 : Int32) * l2) + v6)), (3, .int l3), (4, .int (l4 + 1))] [2, 1, 3, 0] rfl ?_
    exact hk15 _ _ _ _ hf
set_option maxRecDepth 20000 in
theorem zb_X8_digestOf_15 {N : Nat} {sh : Sh} {d : Dt} {k4 : Nat → Int32 → Int32 → Option Int32} {r : Int32} {E : EV} (hE : TG E (some (.int r)) (sh, d)) (hk4 : ∀ (l0 : Nat) (l2 : Int32) (l3 : Int32), k4 l0 l2 l3 = some r → Z E yX8_digestOf cX8_digestOf 5 (some .int) 1 (sh, d) 4 [(0, .ref l0), (2, .int l2), (3, .int l3)] []) : ∀ (n : Nat) (l0 : Nat) (l2 : Int32) (l3 : Int32) (l4 : Int32), f_X8_digestOf_15 N sh k4 d n l0 l2 l3 l4 = some r → Z E yX8_digestOf cX8_digestOf 5 (some .int) 1 (sh, d) 15 [(0, .ref l0), (2, .int l2), (3, .int l3), (4, .int l4)] [] := by
  intro n
  induction n with
  | zero => intro l0 l2 l3 l4 hf; cases hf
  | succ n ih => intro l0 l2 l3 l4 hf; exact zg_X8_digestOf_15 hE hk4 ih hf
set_option maxRecDepth 20000 in
theorem zg_X8_digestOf_4 {N : Nat} {sh : Sh} {d : Dt} {r : Int32} {k4 : Nat → Int32 → Int32 → Option Int32} {E : EV} (hE : TG E (some (.int r)) (sh, d))  (hk4 : ∀ (l0 : Nat) (l2 : Int32) (l3 : Int32), k4 l0 l2 l3 = some r → Z E yX8_digestOf cX8_digestOf 5 (some .int) 1 (sh, d) 4 [(0, .ref l0), (2, .int l2), (3, .int l3)] []) {l0 : Nat} {l2 : Int32} {l3 : Int32} (hf : g_X8_digestOf_4 N sh k4 l0 l2 l3 d = some r) : Z E yX8_digestOf cX8_digestOf 5 (some .int) 1 (sh, d) 4 [(0, .ref l0), (2, .int l2), (3, .int l3)] [] := by
  unfold g_X8_digestOf_4 at hf
  refine z_iload_n 2 dX8_digestOf_4 rfl rfl ?_
  refine z_aload_n 0 dX8_digestOf_5 rfl rfl ?_
  refine z_gI (ci := 8) (k := 1) (C := RX8) (T := TX8) (N := 2) rfl inlX8 (by decide) mw_4_2 (fun _ _ _ _ h9 => h9) hf (by decide) rfl dX8_digestOf_6  (fun v1 hf => ?_)
  refine z_icmp_ge 52 hf dX8_digestOf_9 (by decide) (fun hf => ?_) (fun hf => ?_)
  · refine z_lv [(2, .int l2)] [1] rfl ?_
    exact zb_X8_digestOf_52 hE hf
  · refine z_iconst 0 0 dX8_digestOf_12 (by decide) ?_
    refine z_istore [(4, .int (0 : Int32)), (0, .ref l0), (2, .int l2), (3, .int l3)] dX8_digestOf_13 (by decide) rfl ?_
    refine z_lv [(0, .ref l0), (2, .int l2), (3, .int l3), (4, .int (0 : Int32))] [1, 2, 3, 0] rfl ?_
    exact zb_X8_digestOf_15 hE hk4 N _ _ _ _ hf
set_option maxRecDepth 20000 in
theorem zb_X8_digestOf_4 {N : Nat} {sh : Sh} {d : Dt} {r : Int32} {E : EV} (hE : TG E (some (.int r)) (sh, d))  : ∀ (n : Nat) (l0 : Nat) (l2 : Int32) (l3 : Int32), f_X8_digestOf_4 N sh d n l0 l2 l3 = some r → Z E yX8_digestOf cX8_digestOf 5 (some .int) 1 (sh, d) 4 [(0, .ref l0), (2, .int l2), (3, .int l3)] [] := by
  intro n
  induction n with
  | zero => intro l0 l2 l3 hf; cases hf
  | succ n ih => intro l0 l2 l3 hf; exact zg_X8_digestOf_4 hE ih hf
set_option maxRecDepth 20000 in
theorem zm_X8_digestOf {N : Nat} {sh : Sh} {d : Dt} {l0 : Nat} {l1 : Int32} {r : Int32} (hf : f_X8_digestOf N sh l0 l1 d = some r) : isO sh l0 8 ∧ ∀ (l : Launch) (G : GG), Mt l G yX8_digestOf cX8_digestOf 5 (some .int) 1 [.ref l0, .int l1] (sh, d) (some (.int r)) (sh, d) := by
  have hf0 := hf
  unfold f_X8_digestOf at hf
  refine ite_d hf (fun hO hf => ?_) (fun _ hf => ?_)
  · refine ⟨hO, fun l G => mt_of (Or.inl (by decide)) (Nat.le_of_ble_eq_true rfl) Le.rf (fun E hE => ?_)⟩
    show Z E yX8_digestOf cX8_digestOf 5 (some .int) 1 (sh, d) 0 [(0, .ref l0), (1, .int l1)] []
    refine z_iload_n 1 dX8_digestOf_0 rfl rfl ?_
    refine z_istore_n [(2, .int l1), (0, .ref l0), (1, .int l1)] dX8_digestOf_1 rfl (by decide) rfl ?_
    refine z_iconst 0 0 dX8_digestOf_2 (by decide) ?_
    refine z_istore_n [(3, .int (0 : Int32)), (2, .int l1), (0, .ref l0), (1, .int l1)] dX8_digestOf_3 rfl (by decide) rfl ?_
    refine z_lv [(0, .ref l0), (2, .int l1), (3, .int (0 : Int32))] [2, 1, 0] rfl ?_
    exact zb_X8_digestOf_4 hE N _ _ _ hf
  · cases hf
set_option maxRecDepth 20000 in
theorem zb_X1_cellAt_61 {N : Nat} {sh : Sh} {d : Dt} {r : Int32} {E : EV} (hE : TG E (some (.int r)) (sh, d))  {t0 : Int32} (hf : f_X1_cellAt_61 N sh t0 d = some r) : Z E yX1_cellAt cX1_cellAt 5 (some .int) 2 (sh, d) 61 [] [.int t0] := by
  unfold f_X1_cellAt_61 at hf
  cases hf
  exact z_ireturn hE rfl dX1_cellAt_61
set_option maxRecDepth 20000 in
theorem zb_X1_cellAt_43 {N : Nat} {sh : Sh} {d : Dt} {r : Int32} {E : EV} (hE : TG E (some (.int r)) (sh, d))  {l0 : Nat} {t0 : Int32} (hf : f_X1_cellAt_43 N sh l0 t0 d = some r) : Z E yX1_cellAt cX1_cellAt 5 (some .int) 2 (sh, d) 43 [(0, .ref l0)] [.int t0] := by
  unfold f_X1_cellAt_43 at hf
  refine z_istore [(4, .int t0), (0, .ref l0)] dX1_cellAt_43 (by decide) rfl ?_
  refine z_iload 0 dX1_cellAt_45 rfl ?_
  refine z_aload_n 1 dX1_cellAt_47 rfl rfl ?_
  refine z_gQ (ci := 1) (k := 7) (C := RX1) (T := TX1) (N := 8) rfl inlX1 (by decide) mw_3_21 (fun _ _ _ _ h9 => h9) hf (by decide) rfl dX1_cellAt_48  (fun v3 hf => ?_)
  refine z_aLen hf dX1_cellAt_51  (fun v4 hf => ?_)
  refine z_icmp_ge 60 hf dX1_cellAt_52 (by decide) (fun hf => ?_) (fun hf => ?_)
  · refine z_iconst (-1) (-1) dX1_cellAt_60 (by decide) ?_
    refine z_lv [] [] rfl ?_
    exact zb_X1_cellAt_61 hE hf
  · refine z_iload 0 dX1_cellAt_55 rfl ?_
    refine z_goto 61 dX1_cellAt_57 (by decide) ?_
    refine z_lv [] [] rfl ?_
    exact zb_X1_cellAt_61 hE hf
set_option maxRecDepth 20000 in
theorem zb_X1_cellAt_27 {N : Nat} {sh : Sh} {d : Dt} {r : Int32} {E : EV} (hE : TG E (some (.int r)) (sh, d))  {l0 : Nat} {l1 : Int32} {l2 : Int32} {t0 : Int32} (hf : f_X1_cellAt_27 N sh l0 l1 l2 t0 d = some r) : Z E yX1_cellAt cX1_cellAt 5 (some .int) 2 (sh, d) 27 [(0, .ref l0), (1, .int l1), (2, .int l2)] [.int t0] := by
  unfold f_X1_cellAt_27 at hf
  refine z_istore_n [(3, .int t0), (0, .ref l0), (1, .int l1), (2, .int l2)] dX1_cellAt_27 rfl (by decide) rfl ?_
  refine z_iload_n 0 dX1_cellAt_28 rfl rfl ?_
  refine z_if_eq 42 hf dX1_cellAt_29 (by decide) (fun hf => ?_) (fun hf => ?_)
  · refine z_iconst (-1) (-1) dX1_cellAt_42 (by decide) ?_
    refine z_lv [(0, .ref l0)] [1] rfl ?_
    exact zb_X1_cellAt_43 hE hf
  · refine z_iload_n 2 dX1_cellAt_32 rfl rfl ?_
    refine z_sipush 200 200 dX1_cellAt_33 (by decide) ?_
    refine z_imul dX1_cellAt_36 ?_
    refine z_iload_n 3 dX1_cellAt_37 rfl rfl ?_
    refine z_iadd dX1_cellAt_38 ?_
    refine z_goto 43 dX1_cellAt_39 (by decide) ?_
    refine z_lv [(0, .ref l0)] [1] rfl ?_
    exact zb_X1_cellAt_43 hE hf
set_option maxRecDepth 20000 in
theorem zb_X1_cellAt_26 {N : Nat} {sh : Sh} {d : Dt} {r : Int32} {E : EV} (hE : TG E (some (.int r)) (sh, d))  {l0 : Nat} {l1 : Int32} {l2 : Int32} (hf : f_X1_cellAt_26 N sh l0 l1 l2 d = some r) : Z E yX1_cellAt cX1_cellAt 5 (some .int) 2 (sh, d) 26 [(0, .ref l0), (1, .int l1), (2, .int l2)] [] := by
  unfold f_X1_cellAt_26 at hf
  refine z_iconst 0 0 dX1_cellAt_26 (by decide) ?_
  exact zb_X1_cellAt_27 hE hf
set_option maxRecDepth 20000 in
theorem zm_X1_cellAt {N : Nat} {sh : Sh} {d : Dt} {l0 : Nat} {l1 : Int32} {l2 : Int32} {r : Int32} (hf : f_X1_cellAt N sh l0 l1 l2 d = some r) : isO sh l0 1 ∧ ∀ (l : Launch) (G : GG), Mt l G yX1_cellAt cX1_cellAt 5 (some .int) 2 [.ref l0, .int l1, .int l2] (sh, d) (some (.int r)) (sh, d) := by
  have hf0 := hf
  unfold f_X1_cellAt at hf
  refine ite_d hf (fun hO hf => ?_) (fun _ hf => ?_)
  · refine ⟨hO, fun l G => mt_of (Or.inl (by decide)) (Nat.le_of_ble_eq_true rfl) Le.rf (fun E hE => ?_)⟩
    show Z E yX1_cellAt cX1_cellAt 5 (some .int) 2 (sh, d) 0 [(0, .ref l0), (1, .int l1), (2, .int l2)] []
    refine z_aload_n 0 dX1_cellAt_0 rfl rfl ?_
    refine z_gP (ci := 1) (k := 2) (C := RX1) (T := TX1) (N := 8) rfl inlX1 (by decide) mw_3_15 (fun _ _ _ _ h9 => h9) hf (by decide) rfl dX1_cellAt_1  (fun v1 hf => ?_)
    refine z_iload_n 1 dX1_cellAt_4 rfl rfl ?_
    obtain ⟨v2, ev2, hf⟩ := ob hf
    refine z_cVi (ci := 8) (T := TX8) (N := 2) (As := [.int l1]) (rest := []) (zm_X8_has ev2).2 (zm_X8_has ev2).1 (by decide) rfl (Or.inl rfl) mw_21_4 mw_13_23 mw_14_0 mw_3_13 mw_14_1 yk_X8_has (by decide) (by decide) rfl (Nat.le_of_ble_eq_true rfl) rfl dX1_cellAt_5 ?_
    refine z_if_eq 26 hf dX1_cellAt_8 (by decide) (fun hf => ?_) (fun hf => ?_)
    · exact zb_X1_cellAt_26 hE hf
    · refine z_iload_n 2 dX1_cellAt_11 rfl rfl ?_
      refine z_if_lt 26 hf dX1_cellAt_12 (by decide) (fun hf => ?_) (fun hf => ?_)
      · exact zb_X1_cellAt_26 hE hf
      · refine z_iload_n 2 dX1_cellAt_15 rfl rfl ?_
        refine z_sipush 200 200 dX1_cellAt_16 (by decide) ?_
        refine z_icmp_ge 26 hf dX1_cellAt_19 (by decide) (fun hf => ?_) (fun hf => ?_)
        · exact zb_X1_cellAt_26 hE hf
        · refine z_iconst 1 1 dX1_cellAt_22 (by decide) ?_
          refine z_goto 27 dX1_cellAt_23 (by decide) ?_
          exact zb_X1_cellAt_27 hE hf
  · cases hf
set_option maxRecDepth 20000 in
theorem zb_X1_height_37 {N : Nat} {sh : Sh} {d : Dt} {r : UInt32} {E : EV} (hE : TG E (some (.float r)) (sh, d))   (hf : f_X1_height_37 N sh  d = some r) : Z E yX1_height cX1_height 6 (some .float) 3 (sh, d) 37 [] [] := by
  unfold f_X1_height_37 at hf
  refine z_ldcf mw_24_13 dX1_height_37 ?_
  cases hf
  exact z_freturn hE rfl dX1_height_39
set_option maxRecDepth 20000 in
theorem zb_X1_height_86 {N : Nat} {sh : Sh} {d : Dt} {r : UInt32} {E : EV} (hE : TG E (some (.float r)) (sh, d))  {t0 : UInt32} (hf : f_X1_height_86 N sh t0 d = some r) : Z E yX1_height cX1_height 6 (some .float) 3 (sh, d) 86 [] [.float t0] := by
  unfold f_X1_height_86 at hf
  cases hf
  exact z_freturn hE rfl dX1_height_86
set_option maxRecDepth 20000 in
theorem zb_X1_height_71 {N : Nat} {sh : Sh} {d : Dt} {r : UInt32} {E : EV} (hE : TG E (some (.float r)) (sh, d))  {t0 : UInt32} (hf : f_X1_height_71 N sh t0 d = some r) : Z E yX1_height cX1_height 6 (some .float) 3 (sh, d) 71 [] [.float t0] := by
  unfold f_X1_height_71 at hf
  refine z_fstore [(5, .float t0)] dX1_height_71 (by decide) rfl ?_
  refine z_fload 0 dX1_height_73 rfl ?_
  refine z_fconst0 dX1_height_75 ?_
  refine z_fcmp dX1_height_76 ?_
  refine z_if_ge 84 hf dX1_height_77 (by decide) (fun hf => ?_) (fun hf => ?_)
  · refine z_fload 0 dX1_height_84 rfl ?_
    refine z_lv [] [] rfl ?_
    exact zb_X1_height_86 hE hf
  · refine z_fconst0 dX1_height_80 ?_
    refine z_goto 86 dX1_height_81 (by decide) ?_
    refine z_lv [] [] rfl ?_
    exact zb_X1_height_86 hE hf
set_option maxRecDepth 20000 in
theorem zm_X1_height {N : Nat} {sh : Sh} {d : Dt} {l0 : Nat} {l1 : Int32} {l2 : Int32} {r : UInt32} (hf : f_X1_height N sh l0 l1 l2 d = some r) : isO sh l0 1 ∧ ∀ (l : Launch) (G : GG), Mt l G yX1_height cX1_height 6 (some .float) 3 [.ref l0, .int l1, .int l2] (sh, d) (some (.float r)) (sh, d) := by
  have hf0 := hf
  unfold f_X1_height at hf
  refine ite_d hf (fun hO hf => ?_) (fun _ hf => ?_)
  · refine ⟨hO, fun l G => mt_of (Or.inl (by decide)) (Nat.le_of_ble_eq_true rfl) Le.rf (fun E hE => ?_)⟩
    show Z E yX1_height cX1_height 6 (some .float) 3 (sh, d) 0 [(0, .ref l0), (1, .int l1), (2, .int l2)] []
    refine z_aload_n 0 dX1_height_0 rfl rfl ?_
    refine z_iload_n 1 dX1_height_1 rfl rfl ?_
    refine z_iload_n 2 dX1_height_2 rfl rfl ?_
    obtain ⟨v1, ev1, hf⟩ := ob hf
    refine z_cVi (ci := 1) (T := TX1) (N := 8) (As := [.int l1, .int l2]) (rest := []) (zm_X1_cellAt ev1).2 (zm_X1_cellAt ev1).1 (by decide) rfl (Or.inl rfl) mw_21_0 mw_21_1 mw_21_2 mw_1_18 mw_21_3 yk_X1_cellAt (by decide) (by decide) rfl (Nat.le_of_ble_eq_true rfl) rfl dX1_height_3 ?_
    refine z_istore_n [(3, .int v1), (0, .ref l0), (1, .int l1), (2, .int l2)] dX1_height_6 rfl (by decide) rfl ?_
    refine z_iload_n 0 dX1_height_7 rfl rfl ?_
    refine z_if_lt 37 hf dX1_height_8 (by decide) (fun hf => ?_) (fun hf => ?_)
    · refine z_lv [] [] rfl ?_
      exact zb_X1_height_37 hE hf
    · refine z_aload_n 1 dX1_height_11 rfl rfl ?_
      refine z_gQ (ci := 1) (k := 7) (C := RX1) (T := TX1) (N := 8) rfl inlX1 (by decide) mw_3_21 (fun _ _ _ _ h9 => h9) hf (by decide) rfl dX1_height_12  (fun v2 hf => ?_)
      refine z_iload_n 0 dX1_height_15 rfl rfl ?_
      refine z_aJ hf dX1_height_16  (fun v3 hf => ?_)
      refine z_ldc2 mw_22_12 dX1_height_17 ?_
      refine z_lcmp dX1_height_20 ?_
      refine z_if_eq 37 hf dX1_height_21 (by decide) (fun hf => ?_) (fun hf => ?_)
      · refine z_lv [] [] rfl ?_
        exact zb_X1_height_37 hE hf
      · refine z_aload_n 1 dX1_height_24 rfl rfl ?_
        refine z_gQ (ci := 1) (k := 7) (C := RX1) (T := TX1) (N := 8) rfl inlX1 (by decide) mw_3_21 (fun _ _ _ _ h9 => h9) hf (by decide) rfl dX1_height_25  (fun v4 hf => ?_)
        refine z_iload_n 0 dX1_height_28 rfl rfl ?_
        refine z_aJ hf dX1_height_29  (fun v5 hf => ?_)
        refine z_ldc2 mw_22_13 dX1_height_30 ?_
        refine z_lcmp dX1_height_33 ?_
        refine z_if_ne 40 hf dX1_height_34 (by decide) (fun hf => ?_) (fun hf => ?_)
        · refine z_aload_n 1 dX1_height_40 rfl rfl ?_
          refine z_gQ (ci := 1) (k := 7) (C := RX1) (T := TX1) (N := 8) rfl inlX1 (by decide) mw_3_21 (fun _ _ _ _ h9 => h9) hf (by decide) rfl dX1_height_41  (fun v6 hf => ?_)
          refine z_iload_n 0 dX1_height_44 rfl rfl ?_
          refine z_aJ hf dX1_height_45  (fun v7 hf => ?_)
          refine z_l2i dX1_height_46 ?_
          refine z_i2f dX1_height_47 ?_
          refine z_fstore [(4, .float (FP.i2f v7.toInt32)), (3, .int v1), (0, .ref l0), (1, .int l1), (2, .int l2)] dX1_height_48 (by decide) rfl ?_
          refine z_aload_n 2 dX1_height_50 rfl rfl ?_
          refine z_iload_n 3 dX1_height_51 rfl rfl ?_
          obtain ⟨v8, ev8, hf⟩ := ob hf
          refine z_cVi (ci := 1) (T := TX1) (N := 8) (As := [.int l1]) (rest := []) (zm_X1_isOfShorts ev8).2 (zm_X1_isOfShorts ev8).1 (by decide) rfl (Or.inl rfl) mw_24_15 mw_22_6 mw_22_7 mw_1_18 mw_22_8 yk_X1_isOfShorts (by decide) (by decide) rfl (Nat.le_of_ble_eq_true rfl) rfl dX1_height_52 ?_
          refine z_if_eq 66 hf dX1_height_55 (by decide) (fun hf => ?_) (fun hf => ?_)
          · refine z_fload 0 dX1_height_66 rfl ?_
            refine z_ldcf mw_24_14 dX1_height_68 ?_
            refine z_fdiv hf dX1_height_70  (fun v9 hf => ?_)
            refine z_lv [] [] rfl ?_
            exact zb_X1_height_71 hE hf
          · refine z_fload 0 dX1_height_58 rfl ?_
            refine z_ldcf mw_24_7 dX1_height_60 ?_
            refine z_fdiv hf dX1_height_62  (fun v10 hf => ?_)
            refine z_goto 71 dX1_height_63 (by decide) ?_
            refine z_lv [] [] rfl ?_
            exact zb_X1_height_71 hE hf
        · refine z_lv [] [] rfl ?_
          exact zb_X1_height_37 hE hf
  · cases hf
set_option maxRecDepth 20000 in
theorem zb_X1_tenths_27 {N : Nat} {sh : Sh} {d : Dt} {r : Int32} {E : EV} (hE : TG E (some (.int r)) (sh, d))  {t0 : Int32} (hf : f_X1_tenths_27 N sh t0 d = some r) : Z E yX1_tenths cX1_tenths 4 (some .int) 4 (sh, d) 27 [] [.int t0] := by
  unfold f_X1_tenths_27 at hf
  cases hf
  exact z_ireturn hE rfl dX1_tenths_27
set_option maxRecDepth 20000 in
theorem zm_X1_tenths {N : Nat} {sh : Sh} {d : Dt} {l0 : Nat} {l1 : Int32} {l2 : Int32} {r : Int32} (hf : f_X1_tenths N sh l0 l1 l2 d = some r) : isO sh l0 1 ∧ ∀ (l : Launch) (G : GG), Mt l G yX1_tenths cX1_tenths 4 (some .int) 4 [.ref l0, .int l1, .int l2] (sh, d) (some (.int r)) (sh, d) := by
  have hf0 := hf
  unfold f_X1_tenths at hf
  refine ite_d hf (fun hO hf => ?_) (fun _ hf => ?_)
  · refine ⟨hO, fun l G => mt_of (Or.inl (by decide)) (Nat.le_of_ble_eq_true rfl) Le.rf (fun E hE => ?_)⟩
    show Z E yX1_tenths cX1_tenths 4 (some .int) 4 (sh, d) 0 [(0, .ref l0), (1, .int l1), (2, .int l2)] []
    refine z_aload_n 0 dX1_tenths_0 rfl rfl ?_
    refine z_iload_n 1 dX1_tenths_1 rfl rfl ?_
    refine z_iload_n 2 dX1_tenths_2 rfl rfl ?_
    obtain ⟨v1, ev1, hf⟩ := ob hf
    refine z_cVf (ci := 1) (T := TX1) (N := 8) (As := [.int l1, .int l2]) (rest := []) (zm_X1_height ev1).2 (zm_X1_height ev1).1 (by decide) rfl (Or.inl rfl) mw_24_9 mw_24_10 mw_24_11 mw_1_18 mw_24_12 yk_X1_height (by decide) (by decide) rfl (Nat.le_of_ble_eq_true rfl) rfl dX1_tenths_3 ?_
    refine z_fstore_n [(3, .float v1), (0, .ref l0), (1, .int l1), (2, .int l2)] dX1_tenths_6 rfl (by decide) rfl ?_
    refine z_fload_n 0 dX1_tenths_7 rfl rfl ?_
    refine z_fconst0 dX1_tenths_8 ?_
    refine z_fcmp dX1_tenths_9 ?_
    refine z_if_ge 17 hf dX1_tenths_10 (by decide) (fun hf => ?_) (fun hf => ?_)
    · refine z_ldc mw_24_6 dX1_tenths_17 ?_
      refine z_fload_n 0 dX1_tenths_19 rfl rfl ?_
      refine z_ldcf mw_24_7 dX1_tenths_20 ?_
      refine z_fmul hf dX1_tenths_22  (fun v2 hf => ?_)
      refine z_f2i dX1_tenths_23 ?_
      refine z_min mw_24_8 mw_9_20 mw_8_22 mw_9_21 (by decide) (Nat.le_of_ble_eq_true rfl) dX1_tenths_24 ?_
      refine z_lv [] [] rfl ?_
      exact zb_X1_tenths_27 hE hf
    · refine z_iconst (-1) (-1) dX1_tenths_13 (by decide) ?_
      refine z_goto 27 dX1_tenths_14 (by decide) ?_
      refine z_lv [] [] rfl ?_
      exact zb_X1_tenths_27 hE hf
  · cases hf
set_option maxRecDepth 20000 in
theorem zb_X11_digest_113 {N : Nat} {sh : Sh} {r : Int32 × Dt} {E : EV} (hE : TG E (some (.int r.1)) (sh, r.2))  {l0 : Nat} {l1 : Int32} {d : Dt} (hf : f_X11_digest_113 N sh l0 l1 d = some r) : Z E yX11_digest cX11_digest 5 (some .int) 5 (sh, d) 113 [(0, .ref l0), (1, .int l1)] [] := by
  unfold f_X11_digest_113 at hf
  refine z_aload_n 0 dX11_digest_113 rfl rfl ?_
  refine z_gP (ci := 11) (k := 1) (C := RX11) (T := TX11) (N := 14) rfl inlX11 (by decide) mw_1_19 (fun _ _ _ _ h9 => h9) hf (by decide) rfl dX11_digest_114  (fun v15 hf => ?_)
  refine z_gP (ci := 1) (k := 3) (C := RX1) (T := TX1) (N := 8) rfl inlX1 (by decide) mw_29_16 (fun _ _ _ _ h9 => h9) hf (by decide) rfl dX11_digest_117  (fun v16 hf => ?_)
  refine z_iload_n 1 dX11_digest_120 rfl rfl ?_
  obtain ⟨v17, ev17, hf⟩ := ob hf
  refine z_cVi (ci := 8) (T := TX8) (N := 2) (As := [.int l1]) (rest := []) (zm_X8_digestOf ev17).2 (zm_X8_digestOf ev17).1 (by decide) rfl (Or.inl rfl) mw_58_0 mw_58_1 mw_58_2 mw_3_13 mw_58_3 yk_X8_digestOf (by decide) (by decide) rfl (Nat.le_of_ble_eq_true rfl) rfl dX11_digest_121 ?_
  refine z_istore_n [(1, .int v17), (0, .ref l0)] dX11_digest_124 rfl (by decide) rfl ?_
  refine z_aload_n 1 dX11_digest_125 rfl rfl ?_
  refine z_aload_n 1 dX11_digest_126 rfl rfl ?_
  refine z_gP (ci := 11) (k := 1) (C := RX11) (T := TX11) (N := 14) rfl inlX11 (by decide) mw_1_19 (fun _ _ _ _ h9 => h9) hf (by decide) rfl dX11_digest_127  (fun v18 hf => ?_)
  refine z_gP (ci := 1) (k := 4) (C := RX1) (T := TX1) (N := 8) rfl inlX1 (by decide) mw_43_7 (fun _ _ _ _ h9 => h9) hf (by decide) rfl dX11_digest_130  (fun v19 hf => ?_)
  refine z_iload_n 0 dX11_digest_133 rfl rfl ?_
  obtain ⟨v20, ev20, hf⟩ := ob hf
  refine z_cVi (ci := 8) (T := TX8) (N := 2) (As := [.int v17]) (rest := [.ref l0]) (zm_X8_digestOf ev20).2 (zm_X8_digestOf ev20).1 (by decide) rfl (Or.inl rfl) mw_58_0 mw_58_1 mw_58_2 mw_3_13 mw_58_3 yk_X8_digestOf (by decide) (by decide) rfl (Nat.le_of_ble_eq_true rfl) rfl dX11_digest_134 ?_
  obtain ⟨v21, ev21, hf⟩ := ob hf
  refine z_cVi (ci := 11) (T := TX11) (N := 14) (As := [.int v20]) (rest := []) (zm_X11_answer ev21).2 (zm_X11_answer ev21).1 (by decide) rfl (Or.inl rfl) mw_11_2 mw_11_3 mw_11_4 mw_1_2 mw_11_5 yk_X11_answer (by decide) (by decide) rfl (Nat.le_of_ble_eq_true rfl) rfl dX11_digest_137 ?_
  cases hf
  exact z_ireturn hE rfl dX11_digest_140
set_option maxRecDepth 20000 in
theorem zb_X11_digest_107 {N : Nat} {sh : Sh} {k26 : Nat → Int32 → Int32 → Dt → Option (Int32 × Dt)} {r : Int32 × Dt} {E : EV} (hE : TG E (some (.int r.1)) (sh, r.2)) (hk26 : ∀ (l0 : Nat) (l1 : Int32) (l2 : Int32) (d : Dt), k26 l0 l1 l2 d = some r → Z E yX11_digest cX11_digest 5 (some .int) 5 (sh, d) 26 [(0, .ref l0), (1, .int l1), (2, .int l2)] []) {l0 : Nat} {l1 : Int32} {l2 : Int32} {d : Dt} (hf : f_X11_digest_107 N sh k26 l0 l1 l2 d = some r) : Z E yX11_digest cX11_digest 5 (some .int) 5 (sh, d) 107 [(0, .ref l0), (1, .int l1), (2, .int l2)] [] := by
  unfold f_X11_digest_107 at hf
  refine z_iinc [(2, .int (l2 + 1)), (0, .ref l0), (1, .int l1)] 2 (l2 + 1) dX11_digest_107 rfl rfl (by decide) rfl ?_
  refine z_goto 26 dX11_digest_110 (by decide) ?_
  refine z_lv [(0, .ref l0), (1, .int l1), (2, .int (l2 + 1))] [1, 2, 0] rfl ?_
  exact hk26 _ _ _ _ hf
set_option maxRecDepth 20000 in
theorem zg_X11_digest_79 {N : Nat} {sh : Sh} {k26 : Nat → Int32 → Int32 → Dt → Option (Int32 × Dt)} {r : Int32 × Dt} {k79 : Nat → Int32 → Int32 → Int32 → Int32 → Dt → Option (Int32 × Dt)} {E : EV} (hE : TG E (some (.int r.1)) (sh, r.2)) (hk26 : ∀ (l0 : Nat) (l1 : Int32) (l2 : Int32) (d : Dt), k26 l0 l1 l2 d = some r → Z E yX11_digest cX11_digest 5 (some .int) 5 (sh, d) 26 [(0, .ref l0), (1, .int l1), (2, .int l2)] []) (hk79 : ∀ (l0 : Nat) (l1 : Int32) (l2 : Int32) (l3 : Int32) (l4 : Int32) (d : Dt), k79 l0 l1 l2 l3 l4 d = some r → Z E yX11_digest cX11_digest 5 (some .int) 5 (sh, d) 79 [(0, .ref l0), (1, .int l1), (2, .int l2), (3, .int l3), (4, .int l4)] []) {l0 : Nat} {l1 : Int32} {l2 : Int32} {l3 : Int32} {l4 : Int32} {d : Dt} (hf : g_X11_digest_79 N sh k26 k79 l0 l1 l2 l3 l4 d = some r) : Z E yX11_digest cX11_digest 5 (some .int) 5 (sh, d) 79 [(0, .ref l0), (1, .int l1), (2, .int l2), (3, .int l3), (4, .int l4)] [] := by
  unfold g_X11_digest_79 at hf
  refine z_iload 4 dX11_digest_79 rfl ?_
  refine z_iload_n 3 dX11_digest_81 rfl rfl ?_
  refine z_icmp_ge 107 hf dX11_digest_82 (by decide) (fun hf => ?_) (fun hf => ?_)
  · refine z_lv [(0, .ref l0), (1, .int l1), (2, .int l2)] [0, 1, 2] rfl ?_
    exact zb_X11_digest_107 hE hk26 hf
  · refine z_bipush 31 31 dX11_digest_85 (by decide) ?_
    refine z_iload_n 1 dX11_digest_87 rfl rfl ?_
    refine z_imul dX11_digest_88 ?_
    refine z_aload_n 0 dX11_digest_89 rfl rfl ?_
    refine z_gP (ci := 11) (k := 1) (C := RX11) (T := TX11) (N := 14) rfl inlX11 (by decide) mw_1_19 (fun _ _ _ _ h9 => h9) hf (by decide) rfl dX11_digest_90  (fun v22 hf => ?_)
    refine z_iload_n 2 dX11_digest_93 rfl rfl ?_
    refine z_iload 4 dX11_digest_94 rfl ?_
    obtain ⟨v23, ev23, hf⟩ := ob hf
    refine z_cVi (ci := 1) (T := TX1) (N := 8) (As := [.int l2, .int l4]) (rest := [.int ((31 : Int32) * l1)]) (zm_X1_tenths ev23).2 (zm_X1_tenths ev23).1 (by decide) rfl (Or.inl rfl) mw_24_2 mw_24_3 mw_24_4 mw_1_18 mw_24_5 yk_X1_tenths (by decide) (by decide) rfl (Nat.le_of_ble_eq_true rfl) rfl dX11_digest_96 ?_
    refine z_iadd dX11_digest_99 ?_
    refine z_istore_n [(1, .int (((31 : Int32) * l1) + v23)), (0, .ref l0), (2, .int l2), (3, .int l3), (4, .int l4)] dX11_digest_100 rfl (by decide) rfl ?_
    refine z_iinc [(4, .int (l4 + 1)), (1, .int (((31 : Int32) * l1) + v23)), (0, .ref l0), (2, .int l2), (3, .int l3)] 4 (l4 + 1) dX11_digest_101 rfl rfl (by decide) rfl ?_
    refine z_goto 79 dX11_digest_104 (by decide) ?_
    refine z_lv [(0, .ref l0), (1, .int (((31 : Int32) * l1) + v23)), (2, .int l2), (3, .int l3), (4, .int (l4 + 1))] [2, 1, 3, 4, 0] rfl ?_
    exact hk79 _ _ _ _ _ _ hf
set_option maxRecDepth 20000 in
theorem zb_X11_digest_79 {N : Nat} {sh : Sh} {k26 : Nat → Int32 → Int32 → Dt → Option (Int32 × Dt)} {r : Int32 × Dt} {E : EV} (hE : TG E (some (.int r.1)) (sh, r.2)) (hk26 : ∀ (l0 : Nat) (l1 : Int32) (l2 : Int32) (d : Dt), k26 l0 l1 l2 d = some r → Z E yX11_digest cX11_digest 5 (some .int) 5 (sh, d) 26 [(0, .ref l0), (1, .int l1), (2, .int l2)] []) : ∀ (n : Nat) (l0 : Nat) (l1 : Int32) (l2 : Int32) (l3 : Int32) (l4 : Int32) (d : Dt), f_X11_digest_79 N sh k26 n l0 l1 l2 l3 l4 d = some r → Z E yX11_digest cX11_digest 5 (some .int) 5 (sh, d) 79 [(0, .ref l0), (1, .int l1), (2, .int l2), (3, .int l3), (4, .int l4)] [] := by
  intro n
  induction n with
  | zero => intro l0 l1 l2 l3 l4 d hf; cases hf
  | succ n ih => intro l0 l1 l2 l3 l4 d hf; exact zg_X11_digest_79 hE hk26 ih hf
set_option maxRecDepth 20000 in
theorem zg_X11_digest_26 {N : Nat} {sh : Sh} {r : Int32 × Dt} {k26 : Nat → Int32 → Int32 → Dt → Option (Int32 × Dt)} {E : EV} (hE : TG E (some (.int r.1)) (sh, r.2))  (hk26 : ∀ (l0 : Nat) (l1 : Int32) (l2 : Int32) (d : Dt), k26 l0 l1 l2 d = some r → Z E yX11_digest cX11_digest 5 (some .int) 5 (sh, d) 26 [(0, .ref l0), (1, .int l1), (2, .int l2)] []) {l0 : Nat} {l1 : Int32} {l2 : Int32} {d : Dt} (hf : g_X11_digest_26 N sh k26 l0 l1 l2 d = some r) : Z E yX11_digest cX11_digest 5 (some .int) 5 (sh, d) 26 [(0, .ref l0), (1, .int l1), (2, .int l2)] [] := by
  unfold g_X11_digest_26 at hf
  refine z_iload_n 2 dX11_digest_26 rfl rfl ?_
  refine z_aload_n 0 dX11_digest_27 rfl rfl ?_
  refine z_gP (ci := 11) (k := 1) (C := RX11) (T := TX11) (N := 14) rfl inlX11 (by decide) mw_1_19 (fun _ _ _ _ h9 => h9) hf (by decide) rfl dX11_digest_28  (fun v6 hf => ?_)
  refine z_gP (ci := 1) (k := 2) (C := RX1) (T := TX1) (N := 8) rfl inlX1 (by decide) mw_19_21 (fun _ _ _ _ h9 => h9) hf (by decide) rfl dX11_digest_31  (fun v7 hf => ?_)
  refine z_gI (ci := 8) (k := 1) (C := RX8) (T := TX8) (N := 2) rfl inlX8 (by decide) mw_12_13 (fun _ _ _ _ h9 => h9) hf (by decide) rfl dX11_digest_34  (fun v8 hf => ?_)
  refine z_icmp_ge 113 hf dX11_digest_37 (by decide) (fun hf => ?_) (fun hf => ?_)
  · refine z_lv [(0, .ref l0), (1, .int l1)] [0, 1] rfl ?_
    exact zb_X11_digest_113 hE hf
  · refine z_aload_n 0 dX11_digest_40 rfl rfl ?_
    refine z_gP (ci := 11) (k := 1) (C := RX11) (T := TX11) (N := 14) rfl inlX11 (by decide) mw_1_19 (fun _ _ _ _ h9 => h9) hf (by decide) rfl dX11_digest_41  (fun v9 hf => ?_)
    refine z_gP (ci := 1) (k := 2) (C := RX1) (T := TX1) (N := 8) rfl inlX1 (by decide) mw_19_21 (fun _ _ _ _ h9 => h9) hf (by decide) rfl dX11_digest_44  (fun v10 hf => ?_)
    refine z_iload_n 2 dX11_digest_47 rfl rfl ?_
    refine z_iconst 2 2 dX11_digest_48 (by decide) ?_
    obtain ⟨v11, ev11, hf⟩ := ob hf
    refine z_cVi (ci := 8) (T := TX8) (N := 2) (As := [.int l2, .int (2 : Int32)]) (rest := []) (zm_X8_get ev11).2 (zm_X8_get ev11).1 (by decide) rfl (Or.inl rfl) mw_14_2 mw_10_11 mw_10_12 mw_3_13 mw_10_13 yk_X8_get (by decide) (by decide) rfl (Nat.le_of_ble_eq_true rfl) rfl dX11_digest_49 ?_
    refine z_istore_n [(3, .int v11), (0, .ref l0), (1, .int l1), (2, .int l2)] dX11_digest_52 rfl (by decide) rfl ?_
    refine z_bipush 31 31 dX11_digest_53 (by decide) ?_
    refine z_bipush 31 31 dX11_digest_55 (by decide) ?_
    refine z_iload_n 2 dX11_digest_57 rfl rfl ?_
    refine z_imul dX11_digest_58 ?_
    refine z_aload_n 1 dX11_digest_59 rfl rfl ?_
    refine z_gP (ci := 11) (k := 1) (C := RX11) (T := TX11) (N := 14) rfl inlX11 (by decide) mw_1_19 (fun _ _ _ _ h9 => h9) hf (by decide) rfl dX11_digest_60  (fun v12 hf => ?_)
    refine z_gP (ci := 1) (k := 2) (C := RX1) (T := TX1) (N := 8) rfl inlX1 (by decide) mw_19_21 (fun _ _ _ _ h9 => h9) hf (by decide) rfl dX11_digest_63  (fun v13 hf => ?_)
    refine z_iload_n 3 dX11_digest_66 rfl rfl ?_
    refine z_iconst 0 0 dX11_digest_67 (by decide) ?_
    obtain ⟨v14, ev14, hf⟩ := ob hf
    refine z_cVi (ci := 8) (T := TX8) (N := 2) (As := [.int l2, .int (0 : Int32)]) (rest := [.int ((31 : Int32) * l1), .int (31 : Int32)]) (zm_X8_get ev14).2 (zm_X8_get ev14).1 (by decide) rfl (Or.inl rfl) mw_14_2 mw_10_11 mw_10_12 mw_3_13 mw_10_13 yk_X8_get (by decide) (by decide) rfl (Nat.le_of_ble_eq_true rfl) rfl dX11_digest_68 ?_
    refine z_iadd dX11_digest_71 ?_
    refine z_imul dX11_digest_72 ?_
    refine z_iload_n 0 dX11_digest_73 rfl rfl ?_
    refine z_iadd dX11_digest_74 ?_
    refine z_istore_n [(1, .int (((31 : Int32) * (((31 : Int32) * l1) + v14)) + v11)), (3, .int v11), (0, .ref l0), (2, .int l2)] dX11_digest_75 rfl (by decide) rfl ?_
    refine z_iconst 0 0 dX11_digest_76 (by decide) ?_
    refine z_istore [(4, .int (0 : Int32)), (1, .int (((31 : Int32) * (((31 : Int32) * l1) + v14)) + v11)), (3, .int v11), (0, .ref l0), (2, .int l2)] dX11_digest_77 (by decide) rfl ?_
    refine z_lv [(0, .ref l0), (1, .int (((31 : Int32) * (((31 : Int32) * l1) + v14)) + v11)), (2, .int l2), (3, .int v11), (4, .int (0 : Int32))] [3, 1, 4, 2, 0] rfl ?_
    exact zb_X11_digest_79 hE hk26 N _ _ _ _ _ _ hf
set_option maxRecDepth 20000 in
theorem zb_X11_digest_26 {N : Nat} {sh : Sh} {r : Int32 × Dt} {E : EV} (hE : TG E (some (.int r.1)) (sh, r.2))  : ∀ (n : Nat) (l0 : Nat) (l1 : Int32) (l2 : Int32) (d : Dt), f_X11_digest_26 N sh n l0 l1 l2 d = some r → Z E yX11_digest cX11_digest 5 (some .int) 5 (sh, d) 26 [(0, .ref l0), (1, .int l1), (2, .int l2)] [] := by
  intro n
  induction n with
  | zero => intro l0 l1 l2 d hf; cases hf
  | succ n ih => intro l0 l1 l2 d hf; exact zg_X11_digest_26 hE ih hf
set_option maxRecDepth 20000 in
theorem zm_X11_digest {N : Nat} {sh : Sh} {d : Dt} {l0 : Nat} {r : Int32 × Dt} (hf : f_X11_digest N sh l0 d = some r) : isO sh l0 11 ∧ ∀ (l : Launch) (G : GG), Mt l G yX11_digest cX11_digest 5 (some .int) 5 [.ref l0] (sh, d) (some (.int r.1)) (sh, r.2) := by
  have hf0 := hf
  unfold f_X11_digest at hf
  refine ite_d hf (fun hO hf => ?_) (fun _ hf => ?_)
  · refine ⟨hO, fun l G => mt_of (Or.inl (by decide)) (Nat.le_of_ble_eq_true rfl) Le.rf (fun E hE => ?_)⟩
    show Z E yX11_digest cX11_digest 5 (some .int) 5 (sh, d) 0 [(0, .ref l0)] []
    refine z_sipush 217 217 dX11_digest_0 (by decide) ?_
    refine z_aload_n 0 dX11_digest_3 rfl rfl ?_
    refine z_gP (ci := 11) (k := 1) (C := RX11) (T := TX11) (N := 14) rfl inlX11 (by decide) mw_1_19 (fun _ _ _ _ h9 => h9) hf (by decide) rfl dX11_digest_4  (fun v1 hf => ?_)
    refine z_gI (ci := 1) (k := 0) (C := RX1) (T := TX1) (N := 8) rfl inlX1 (by decide) mw_7_21 (fun _ _ _ _ h9 => h9) hf (by decide) rfl dX11_digest_7  (fun v2 hf => ?_)
    refine z_iadd dX11_digest_10 ?_
    refine z_istore_n [(1, .int ((217 : Int32) + v2)), (0, .ref l0)] dX11_digest_11 rfl (by decide) rfl ?_
    refine z_aload_n 1 dX11_digest_12 rfl rfl ?_
    refine z_gP (ci := 11) (k := 1) (C := RX11) (T := TX11) (N := 14) rfl inlX11 (by decide) mw_1_19 (fun _ _ _ _ h9 => h9) hf (by decide) rfl dX11_digest_13  (fun v3 hf => ?_)
    refine z_gP (ci := 1) (k := 1) (C := RX1) (T := TX1) (N := 8) rfl inlX1 (by decide) mw_12_12 (fun _ _ _ _ h9 => h9) hf (by decide) rfl dX11_digest_16  (fun v4 hf => ?_)
    refine z_iload_n 0 dX11_digest_19 rfl rfl ?_
    obtain ⟨v5, ev5, hf⟩ := ob hf
    refine z_cVi (ci := 8) (T := TX8) (N := 2) (As := [.int ((217 : Int32) + v2)]) (rest := []) (zm_X8_digestOf ev5).2 (zm_X8_digestOf ev5).1 (by decide) rfl (Or.inl rfl) mw_58_0 mw_58_1 mw_58_2 mw_3_13 mw_58_3 yk_X8_digestOf (by decide) (by decide) rfl (Nat.le_of_ble_eq_true rfl) rfl dX11_digest_20 ?_
    refine z_istore_n [(1, .int v5), (0, .ref l0)] dX11_digest_23 rfl (by decide) rfl ?_
    refine z_iconst 0 0 dX11_digest_24 (by decide) ?_
    refine z_istore_n [(2, .int (0 : Int32)), (1, .int v5), (0, .ref l0)] dX11_digest_25 rfl (by decide) rfl ?_
    refine z_lv [(0, .ref l0), (1, .int v5), (2, .int (0 : Int32))] [2, 1, 0] rfl ?_
    exact zb_X11_digest_26 hE N _ _ _ _ hf
  · cases hf
set_option maxRecDepth 20000 in
theorem zm_X1_nextDrive {N : Nat} {sh : Sh} {d : Dt} {l0 : Nat} {l1 : Int32} {r : Int32} (hf : f_X1_nextDrive N sh l0 l1 d = some r) : isO sh l0 1 ∧ ∀ (l : Launch) (G : GG), Mt l G yX1_nextDrive cX1_nextDrive 2 (some .int) 2 [.ref l0, .int l1] (sh, d) (some (.int r)) (sh, d) := by
  have hf0 := hf
  unfold f_X1_nextDrive at hf
  refine ite_d hf (fun hO hf => ?_) (fun _ hf => ?_)
  · refine ⟨hO, fun l G => mt_of (Or.inl (by decide)) (Nat.le_of_ble_eq_true rfl) Le.rf (fun E hE => ?_)⟩
    show Z E yX1_nextDrive cX1_nextDrive 2 (some .int) 2 (sh, d) 0 [(0, .ref l0), (1, .int l1)] []
    refine z_aload_n 0 dX1_nextDrive_0 rfl rfl ?_
    refine z_gP (ci := 1) (k := 3) (C := RX1) (T := TX1) (N := 8) rfl inlX1 (by decide) mw_3_16 (fun _ _ _ _ h9 => h9) hf (by decide) rfl dX1_nextDrive_1  (fun v1 hf => ?_)
    refine z_iload_n 1 dX1_nextDrive_4 rfl rfl ?_
    refine z_iconst 0 0 dX1_nextDrive_5 (by decide) ?_
    obtain ⟨v2, ev2, hf⟩ := ob hf
    refine z_cVi (ci := 8) (T := TX8) (N := 2) (As := [.int l1, .int (0 : Int32)]) (rest := []) (zm_X8_get ev2).2 (zm_X8_get ev2).1 (by decide) rfl (Or.inl rfl) mw_10_10 mw_10_11 mw_10_12 mw_3_13 mw_10_13 yk_X8_get (by decide) (by decide) rfl (Nat.le_of_ble_eq_true rfl) rfl dX1_nextDrive_6 ?_
    refine z_aload_n 0 dX1_nextDrive_9 rfl rfl ?_
    refine z_gP (ci := 1) (k := 3) (C := RX1) (T := TX1) (N := 8) rfl inlX1 (by decide) mw_3_16 (fun _ _ _ _ h9 => h9) hf (by decide) rfl dX1_nextDrive_10  (fun v3 hf => ?_)
    refine z_iload_n 1 dX1_nextDrive_13 rfl rfl ?_
    refine z_iconst 2 2 dX1_nextDrive_14 (by decide) ?_
    obtain ⟨v4, ev4, hf⟩ := ob hf
    refine z_cVi (ci := 8) (T := TX8) (N := 2) (As := [.int l1, .int (2 : Int32)]) (rest := [.int v2]) (zm_X8_get ev4).2 (zm_X8_get ev4).1 (by decide) rfl (Or.inl rfl) mw_10_10 mw_10_11 mw_10_12 mw_3_13 mw_10_13 yk_X8_get (by decide) (by decide) rfl (Nat.le_of_ble_eq_true rfl) rfl dX1_nextDrive_15 ?_
    refine z_iadd dX1_nextDrive_18 ?_
    cases hf
    exact z_ireturn hE rfl dX1_nextDrive_19
  · cases hf
set_option maxRecDepth 20000 in
theorem zm_X8_raise {N : Nat} {sh : Sh} {d : Dt} {l0 : Nat} {l1 : Int32} {l2 : Int32} {l3 : Int32} {r : Dt} (hf : f_X8_raise N sh l0 l1 l2 l3 d = some r) : isO sh l0 8 ∧ ∀ (l : Launch) (G : GG), Mt l G yX8_raise cX8_raise 4 none 2 [.ref l0, .int l1, .int l2, .int l3] (sh, d) none (sh, r) := by
  have hf0 := hf
  unfold f_X8_raise at hf
  refine ite_d hf (fun hO hf => ?_) (fun _ hf => ?_)
  · refine ⟨hO, fun l G => mt_of (Or.inl (by decide)) (Nat.le_of_ble_eq_true rfl) Le.rf (fun E hE => ?_)⟩
    show Z E yX8_raise cX8_raise 4 none 2 (sh, d) 0 [(0, .ref l0), (1, .int l1), (2, .int l2), (3, .int l3)] []
    refine z_aload_n 0 dX8_raise_0 rfl rfl ?_
    refine z_iload_n 1 dX8_raise_1 rfl rfl ?_
    refine z_iload_n 2 dX8_raise_2 rfl rfl ?_
    refine z_aload_n 0 dX8_raise_3 rfl rfl ?_
    refine z_iload_n 1 dX8_raise_4 rfl rfl ?_
    refine z_iload_n 2 dX8_raise_5 rfl rfl ?_
    obtain ⟨v1, ev1, hf⟩ := ob hf
    refine z_cVi (ci := 8) (T := TX8) (N := 2) (As := [.int l1, .int l2]) (rest := [.int l2, .int l1, .ref l0]) (zm_X8_get ev1).2 (zm_X8_get ev1).1 (by decide) rfl (Or.inl rfl) mw_55_6 mw_10_11 mw_10_12 mw_3_13 mw_10_13 yk_X8_get (by decide) (by decide) rfl (Nat.le_of_ble_eq_true rfl) rfl dX8_raise_6 ?_
    refine z_iload_n 3 dX8_raise_9 rfl rfl ?_
    refine z_iadd dX8_raise_10 ?_
    obtain ⟨v2, ev2, hf⟩ := ob hf
    refine z_cVv (ci := 8) (T := TX8) (N := 2) (As := [.int l1, .int l2, .int (v1 + l3)]) (rest := []) (zm_X8_put ev2).2 (zm_X8_put ev2).1 (by decide) rfl (Or.inl rfl) mw_55_7 mw_12_23 mw_13_0 mw_3_13 mw_13_1 yk_X8_put (by decide) (by decide) rfl (Nat.le_of_ble_eq_true rfl) rfl dX8_raise_11 ?_
    cases hf
    exact z_return hE rfl dX8_raise_14
  · cases hf
set_option maxRecDepth 20000 in
theorem zb_X1_clearSide_56 {N : Nat} {sh : Sh} {r : Dt} {E : EV} (hE : TG E none (sh, r))   {d : Dt} (hf : f_X1_clearSide_56 N sh  d = some r) : Z E yX1_clearSide cX1_clearSide 3 none 3 (sh, d) 56 [] [] := by
  unfold f_X1_clearSide_56 at hf
  cases hf
  exact z_return hE rfl dX1_clearSide_56
set_option maxRecDepth 20000 in
theorem zb_X1_clearSide_33 {N : Nat} {sh : Sh} {r : Dt} {E : EV} (hE : TG E none (sh, r))  {l0 : Nat} {l1 : Int32} {l2 : Int32} {d : Dt} (hf : f_X1_clearSide_33 N sh l0 l1 l2 d = some r) : Z E yX1_clearSide cX1_clearSide 3 none 3 (sh, d) 33 [(0, .ref l0), (1, .int l1), (2, .int l2)] [] := by
  unfold f_X1_clearSide_33 at hf
  refine z_aload_n 0 dX1_clearSide_33 rfl rfl ?_
  refine z_gP (ci := 1) (k := 1) (C := RX1) (T := TX1) (N := 8) rfl inlX1 (by decide) mw_3_14 (fun _ _ _ _ h9 => h9) hf (by decide) rfl dX1_clearSide_34  (fun v7 hf => ?_)
  refine z_iload_n 1 dX1_clearSide_37 rfl rfl ?_
  refine z_iconst 2 2 dX1_clearSide_38 (by decide) ?_
  obtain ⟨v8, ev8, hf⟩ := ob hf
  refine z_cVi (ci := 8) (T := TX8) (N := 2) (As := [.int l1, .int (2 : Int32)]) (rest := []) (zm_X8_get ev8).2 (zm_X8_get ev8).1 (by decide) rfl (Or.inl rfl) mw_10_10 mw_10_11 mw_10_12 mw_3_13 mw_10_13 yk_X8_get (by decide) (by decide) rfl (Nat.le_of_ble_eq_true rfl) rfl dX1_clearSide_39 ?_
  refine z_iload_n 2 dX1_clearSide_42 rfl rfl ?_
  refine z_icmp_lt 56 hf dX1_clearSide_43 (by decide) (fun hf => ?_) (fun hf => ?_)
  · refine z_lv [] [] rfl ?_
    exact zb_X1_clearSide_56 hE hf
  · refine z_aload_n 0 dX1_clearSide_46 rfl rfl ?_
    refine z_gP (ci := 1) (k := 1) (C := RX1) (T := TX1) (N := 8) rfl inlX1 (by decide) mw_3_14 (fun _ _ _ _ h9 => h9) hf (by decide) rfl dX1_clearSide_47  (fun v9 hf => ?_)
    refine z_iload_n 1 dX1_clearSide_50 rfl rfl ?_
    refine z_iconst 0 0 dX1_clearSide_51 (by decide) ?_
    refine z_iconst 0 0 dX1_clearSide_52 (by decide) ?_
    obtain ⟨v10, ev10, hf⟩ := ob hf
    refine z_cVv (ci := 8) (T := TX8) (N := 2) (As := [.int l1, .int (0 : Int32), .int (0 : Int32)]) (rest := []) (zm_X8_put ev10).2 (zm_X8_put ev10).1 (by decide) rfl (Or.inl rfl) mw_20_3 mw_12_23 mw_13_0 mw_3_13 mw_13_1 yk_X8_put (by decide) (by decide) rfl (Nat.le_of_ble_eq_true rfl) rfl dX1_clearSide_53 ?_
    refine z_lv [] [] rfl ?_
    exact zb_X1_clearSide_56 hE hf
set_option maxRecDepth 20000 in
theorem zm_X1_clearSide {N : Nat} {sh : Sh} {d : Dt} {l0 : Nat} {l1 : Int32} {r : Dt} (hf : f_X1_clearSide N sh l0 l1 d = some r) : isO sh l0 1 ∧ ∀ (l : Launch) (G : GG), Mt l G yX1_clearSide cX1_clearSide 3 none 3 [.ref l0, .int l1] (sh, d) none (sh, r) := by
  have hf0 := hf
  unfold f_X1_clearSide at hf
  refine ite_d hf (fun hO hf => ?_) (fun _ hf => ?_)
  · refine ⟨hO, fun l G => mt_of (Or.inl (by decide)) (Nat.le_of_ble_eq_true rfl) Le.rf (fun E hE => ?_)⟩
    show Z E yX1_clearSide cX1_clearSide 3 none 3 (sh, d) 0 [(0, .ref l0), (1, .int l1)] []
    refine z_aload_n 0 dX1_clearSide_0 rfl rfl ?_
    refine z_gP (ci := 1) (k := 1) (C := RX1) (T := TX1) (N := 8) rfl inlX1 (by decide) mw_3_14 (fun _ _ _ _ h9 => h9) hf (by decide) rfl dX1_clearSide_1  (fun v1 hf => ?_)
    refine z_iload_n 1 dX1_clearSide_4 rfl rfl ?_
    refine z_iconst 3 3 dX1_clearSide_5 (by decide) ?_
    obtain ⟨v2, ev2, hf⟩ := ob hf
    refine z_cVi (ci := 8) (T := TX8) (N := 2) (As := [.int l1, .int (3 : Int32)]) (rest := []) (zm_X8_get ev2).2 (zm_X8_get ev2).1 (by decide) rfl (Or.inl rfl) mw_10_10 mw_10_11 mw_10_12 mw_3_13 mw_10_13 yk_X8_get (by decide) (by decide) rfl (Nat.le_of_ble_eq_true rfl) rfl dX1_clearSide_6 ?_
    refine z_istore_n [(2, .int v2), (0, .ref l0), (1, .int l1)] dX1_clearSide_9 rfl (by decide) rfl ?_
    refine z_aload_n 1 dX1_clearSide_10 rfl rfl ?_
    refine z_gP (ci := 1) (k := 1) (C := RX1) (T := TX1) (N := 8) rfl inlX1 (by decide) mw_3_14 (fun _ _ _ _ h9 => h9) hf (by decide) rfl dX1_clearSide_11  (fun v3 hf => ?_)
    refine z_iload_n 2 dX1_clearSide_14 rfl rfl ?_
    refine z_iconst 2 2 dX1_clearSide_15 (by decide) ?_
    obtain ⟨v4, ev4, hf⟩ := ob hf
    refine z_cVi (ci := 8) (T := TX8) (N := 2) (As := [.int l1, .int (2 : Int32)]) (rest := []) (zm_X8_get ev4).2 (zm_X8_get ev4).1 (by decide) rfl (Or.inl rfl) mw_10_10 mw_10_11 mw_10_12 mw_3_13 mw_10_13 yk_X8_get (by decide) (by decide) rfl (Nat.le_of_ble_eq_true rfl) rfl dX1_clearSide_16 ?_
    refine z_iload_n 0 dX1_clearSide_19 rfl rfl ?_
    refine z_icmp_ge 33 hf dX1_clearSide_20 (by decide) (fun hf => ?_) (fun hf => ?_)
    · refine z_lv [(0, .ref l0), (1, .int l1), (2, .int v2)] [1, 2, 0] rfl ?_
      exact zb_X1_clearSide_33 hE hf
    · refine z_aload_n 1 dX1_clearSide_23 rfl rfl ?_
      refine z_gP (ci := 1) (k := 1) (C := RX1) (T := TX1) (N := 8) rfl inlX1 (by decide) mw_3_14 (fun _ _ _ _ h9 => h9) hf (by decide) rfl dX1_clearSide_24  (fun v5 hf => ?_)
      refine z_iload_n 2 dX1_clearSide_27 rfl rfl ?_
      refine z_iconst 2 2 dX1_clearSide_28 (by decide) ?_
      refine z_iconst 1 1 dX1_clearSide_29 (by decide) ?_
      obtain ⟨v6, ev6, hf⟩ := ob hf
      refine z_cVv (ci := 8) (T := TX8) (N := 2) (As := [.int l1, .int (2 : Int32), .int (1 : Int32)]) (rest := []) (zm_X8_raise ev6).2 (zm_X8_raise ev6).1 (by decide) rfl (Or.inl rfl) mw_55_2 mw_55_3 mw_55_4 mw_3_13 mw_55_5 yk_X8_raise (by decide) (by decide) rfl (Nat.le_of_ble_eq_true rfl) rfl dX1_clearSide_30 ?_
      refine z_lv [(0, .ref l0), (1, .int l1), (2, .int v2)] [1, 2, 0] rfl ?_
      exact zb_X1_clearSide_33 hE hf
  · cases hf
set_option maxRecDepth 20000 in
theorem zb_X11_driveNext_243 {N : Nat} {sh : Sh} {r : Dt} {E : EV} (hE : TG E none (sh, r))  {t0 : Nat} {t1 : Int32} {t2 : Int32} {t3 : Int32} {d : Dt} (hf : f_X11_driveNext_243 N sh t0 t1 t2 t3 d = some r) : Z E yX11_driveNext cX11_driveNext 8 none 4 (sh, d) 243 [] [.int t3, .int t2, .int t1, .ref t0] := by
  unfold f_X11_driveNext_243 at hf
  obtain ⟨v42, ev42, hf⟩ := ob hf
  refine z_cVv (ci := 8) (T := TX8) (N := 2) (As := [.int t1, .int t2, .int t3]) (rest := []) (zm_X8_raise ev42).2 (zm_X8_raise ev42).1 (by decide) rfl (Or.inl rfl) mw_55_8 mw_55_3 mw_55_4 mw_3_13 mw_55_5 yk_X8_raise (by decide) (by decide) rfl (Nat.le_of_ble_eq_true rfl) rfl dX11_driveNext_243 ?_
  cases hf
  exact z_return hE rfl dX11_driveNext_246
set_option maxRecDepth 20000 in
theorem zb_X11_driveNext_221 {N : Nat} {sh : Sh} {r : Dt} {E : EV} (hE : TG E none (sh, r))  {l0 : Nat} {l1 : Int32} {t0 : Int32} {d : Dt} (hf : f_X11_driveNext_221 N sh l0 l1 t0 d = some r) : Z E yX11_driveNext cX11_driveNext 8 none 4 (sh, d) 221 [(0, .ref l0), (1, .int l1)] [.int t0] := by
  unfold f_X11_driveNext_221 at hf
  refine z_istore [(7, .int t0), (0, .ref l0), (1, .int l1)] dX11_driveNext_221 (by decide) rfl ?_
  refine z_aload_n 1 dX11_driveNext_223 rfl rfl ?_
  refine z_gP (ci := 11) (k := 1) (C := RX11) (T := TX11) (N := 14) rfl inlX11 (by decide) mw_1_19 (fun _ _ _ _ h9 => h9) hf (by decide) rfl dX11_driveNext_224  (fun v40 hf => ?_)
  refine z_gP (ci := 1) (k := 3) (C := RX1) (T := TX1) (N := 8) rfl inlX1 (by decide) mw_29_16 (fun _ _ _ _ h9 => h9) hf (by decide) rfl dX11_driveNext_227  (fun v41 hf => ?_)
  refine z_iload_n 2 dX11_driveNext_230 rfl rfl ?_
  refine z_bipush 8 8 dX11_driveNext_231 (by decide) ?_
  refine z_iload 0 dX11_driveNext_233 rfl ?_
  refine z_if_eq 242 hf dX11_driveNext_235 (by decide) (fun hf => ?_) (fun hf => ?_)
  · refine z_iconst 0 0 dX11_driveNext_242 (by decide) ?_
    refine z_lv [] [] rfl ?_
    exact zb_X11_driveNext_243 hE hf
  · refine z_iconst 1 1 dX11_driveNext_238 (by decide) ?_
    refine z_goto 243 dX11_driveNext_239 (by decide) ?_
    refine z_lv [] [] rfl ?_
    exact zb_X11_driveNext_243 hE hf
set_option maxRecDepth 20000 in
theorem zb_X11_driveNext_186 {N : Nat} {sh : Sh} {r : Dt} {E : EV} (hE : TG E none (sh, r))  {l0 : Nat} {l1 : Int32} {t0 : Nat} {t1 : Int32} {t2 : Int32} {t3 : Int32} {d : Dt} (hf : f_X11_driveNext_186 N sh l0 l1 t0 t1 t2 t3 d = some r) : Z E yX11_driveNext cX11_driveNext 8 none 4 (sh, d) 186 [(0, .ref l0), (1, .int l1)] [.int t3, .int t2, .int t1, .ref t0] := by
  unfold f_X11_driveNext_186 at hf
  obtain ⟨v33, ev33, hf⟩ := ob hf
  refine z_cVv (ci := 8) (T := TX8) (N := 2) (As := [.int t1, .int t2, .int t3]) (rest := []) (zm_X8_raise ev33).2 (zm_X8_raise ev33).1 (by decide) rfl (Or.inl rfl) mw_55_8 mw_55_3 mw_55_4 mw_3_13 mw_55_5 yk_X8_raise (by decide) (by decide) rfl (Nat.le_of_ble_eq_true rfl) rfl dX11_driveNext_186 ?_
  refine z_aload_n 0 dX11_driveNext_189 rfl rfl ?_
  refine z_gP (ci := 11) (k := 1) (C := RX11) (T := TX11) (N := 14) rfl inlX11 (by decide) mw_1_19 (fun _ _ _ _ h9 => h9) hf (by decide) rfl dX11_driveNext_190  (fun v34 hf => ?_)
  refine z_gP (ci := 1) (k := 3) (C := RX1) (T := TX1) (N := 8) rfl inlX1 (by decide) mw_29_16 (fun _ _ _ _ h9 => h9) hf (by decide) rfl dX11_driveNext_193  (fun v35 hf => ?_)
  refine z_iload_n 1 dX11_driveNext_196 rfl rfl ?_
  refine z_iconst 3 3 dX11_driveNext_197 (by decide) ?_
  obtain ⟨v36, ev36, hf⟩ := ob hf
  refine z_cVi (ci := 8) (T := TX8) (N := 2) (As := [.int l1, .int (3 : Int32)]) (rest := []) (zm_X8_get ev36).2 (zm_X8_get ev36).1 (by decide) rfl (Or.inl rfl) mw_14_2 mw_10_11 mw_10_12 mw_3_13 mw_10_13 yk_X8_get (by decide) (by decide) rfl (Nat.le_of_ble_eq_true rfl) rfl dX11_driveNext_198 ?_
  refine z_aload_n 0 dX11_driveNext_201 rfl rfl ?_
  refine z_gP (ci := 11) (k := 1) (C := RX11) (T := TX11) (N := 14) rfl inlX11 (by decide) mw_1_19 (fun _ _ _ _ h9 => h9) hf (by decide) rfl dX11_driveNext_202  (fun v37 hf => ?_)
  refine z_gP (ci := 1) (k := 3) (C := RX1) (T := TX1) (N := 8) rfl inlX1 (by decide) mw_29_16 (fun _ _ _ _ h9 => h9) hf (by decide) rfl dX11_driveNext_205  (fun v38 hf => ?_)
  refine z_iload_n 1 dX11_driveNext_208 rfl rfl ?_
  refine z_iconst 5 5 dX11_driveNext_209 (by decide) ?_
  obtain ⟨v39, ev39, hf⟩ := ob hf
  refine z_cVi (ci := 8) (T := TX8) (N := 2) (As := [.int l1, .int (5 : Int32)]) (rest := [.int v36]) (zm_X8_get ev39).2 (zm_X8_get ev39).1 (by decide) rfl (Or.inl rfl) mw_14_2 mw_10_11 mw_10_12 mw_3_13 mw_10_13 yk_X8_get (by decide) (by decide) rfl (Nat.le_of_ble_eq_true rfl) rfl dX11_driveNext_210 ?_
  refine z_icmp_le 220 hf dX11_driveNext_213 (by decide) (fun hf => ?_) (fun hf => ?_)
  · refine z_iconst 0 0 dX11_driveNext_220 (by decide) ?_
    exact zb_X11_driveNext_221 hE hf
  · refine z_iconst 1 1 dX11_driveNext_216 (by decide) ?_
    refine z_goto 221 dX11_driveNext_217 (by decide) ?_
    exact zb_X11_driveNext_221 hE hf
set_option maxRecDepth 20000 in
theorem zb_X11_driveNext_138 {N : Nat} {sh : Sh} {r : Dt} {E : EV} (hE : TG E none (sh, r))  {l0 : Nat} {l1 : Int32} {l5 : Int32} {l6 : Int32} {d : Dt} (hf : f_X11_driveNext_138 N sh l0 l1 l5 l6 d = some r) : Z E yX11_driveNext cX11_driveNext 8 none 4 (sh, d) 138 [(0, .ref l0), (1, .int l1), (5, .int l5), (6, .int l6)] [] := by
  unfold f_X11_driveNext_138 at hf
  refine z_aload_n 0 dX11_driveNext_138 rfl rfl ?_
  refine z_gP (ci := 11) (k := 1) (C := RX11) (T := TX11) (N := 14) rfl inlX11 (by decide) mw_1_19 (fun _ _ _ _ h9 => h9) hf (by decide) rfl dX11_driveNext_139  (fun v25 hf => ?_)
  refine z_gP (ci := 1) (k := 3) (C := RX1) (T := TX1) (N := 8) rfl inlX1 (by decide) mw_29_16 (fun _ _ _ _ h9 => h9) hf (by decide) rfl dX11_driveNext_142  (fun v26 hf => ?_)
  refine z_iload_n 1 dX11_driveNext_145 rfl rfl ?_
  refine z_iconst 2 2 dX11_driveNext_146 (by decide) ?_
  refine z_iconst 1 1 dX11_driveNext_147 (by decide) ?_
  obtain ⟨v27, ev27, hf⟩ := ob hf
  refine z_cVv (ci := 8) (T := TX8) (N := 2) (As := [.int l1, .int (2 : Int32), .int (1 : Int32)]) (rest := []) (zm_X8_raise ev27).2 (zm_X8_raise ev27).1 (by decide) rfl (Or.inl rfl) mw_55_8 mw_55_3 mw_55_4 mw_3_13 mw_55_5 yk_X8_raise (by decide) (by decide) rfl (Nat.le_of_ble_eq_true rfl) rfl dX11_driveNext_148 ?_
  refine z_aload_n 0 dX11_driveNext_151 rfl rfl ?_
  refine z_gP (ci := 11) (k := 1) (C := RX11) (T := TX11) (N := 14) rfl inlX11 (by decide) mw_1_19 (fun _ _ _ _ h9 => h9) hf (by decide) rfl dX11_driveNext_152  (fun v28 hf => ?_)
  refine z_gP (ci := 1) (k := 3) (C := RX1) (T := TX1) (N := 8) rfl inlX1 (by decide) mw_29_16 (fun _ _ _ _ h9 => h9) hf (by decide) rfl dX11_driveNext_155  (fun v29 hf => ?_)
  refine z_iload_n 1 dX11_driveNext_158 rfl rfl ?_
  refine z_iconst 3 3 dX11_driveNext_159 (by decide) ?_
  refine z_iload 3 dX11_driveNext_160 rfl ?_
  obtain ⟨v30, ev30, hf⟩ := ob hf
  refine z_cVv (ci := 8) (T := TX8) (N := 2) (As := [.int l1, .int (3 : Int32), .int l6]) (rest := []) (zm_X8_raise ev30).2 (zm_X8_raise ev30).1 (by decide) rfl (Or.inl rfl) mw_55_8 mw_55_3 mw_55_4 mw_3_13 mw_55_5 yk_X8_raise (by decide) (by decide) rfl (Nat.le_of_ble_eq_true rfl) rfl dX11_driveNext_162 ?_
  refine z_aload_n 0 dX11_driveNext_165 rfl rfl ?_
  refine z_gP (ci := 11) (k := 1) (C := RX11) (T := TX11) (N := 14) rfl inlX11 (by decide) mw_1_19 (fun _ _ _ _ h9 => h9) hf (by decide) rfl dX11_driveNext_166  (fun v31 hf => ?_)
  refine z_gP (ci := 1) (k := 3) (C := RX1) (T := TX1) (N := 8) rfl inlX1 (by decide) mw_29_16 (fun _ _ _ _ h9 => h9) hf (by decide) rfl dX11_driveNext_169  (fun v32 hf => ?_)
  refine z_iload_n 1 dX11_driveNext_172 rfl rfl ?_
  refine z_bipush 7 7 dX11_driveNext_173 (by decide) ?_
  refine z_iload 2 dX11_driveNext_175 rfl ?_
  refine z_iconst 1 1 dX11_driveNext_177 (by decide) ?_
  refine z_icmp_le 185 hf dX11_driveNext_178 (by decide) (fun hf => ?_) (fun hf => ?_)
  · refine z_iconst 0 0 dX11_driveNext_185 (by decide) ?_
    refine z_lv [(0, .ref l0), (1, .int l1)] [0, 1] rfl ?_
    exact zb_X11_driveNext_186 hE hf
  · refine z_iconst 1 1 dX11_driveNext_181 (by decide) ?_
    refine z_goto 186 dX11_driveNext_182 (by decide) ?_
    refine z_lv [(0, .ref l0), (1, .int l1)] [0, 1] rfl ?_
    exact zb_X11_driveNext_186 hE hf
set_option maxRecDepth 20000 in
theorem zb_X11_driveNext_75 {N : Nat} {sh : Sh} {r : Dt} {E : EV} (hE : TG E none (sh, r))  {l0 : Nat} {l1 : Int32} {l3 : Int32} {l4 : Int32} {t0 : Int32} {d : Dt} (hf : f_X11_driveNext_75 N sh l0 l1 l3 l4 t0 d = some r) : Z E yX11_driveNext cX11_driveNext 8 none 4 (sh, d) 75 [(0, .ref l0), (1, .int l1), (3, .int l3), (4, .int l4)] [.int t0] := by
  unfold f_X11_driveNext_75 at hf
  refine z_istore [(5, .int t0), (0, .ref l0), (1, .int l1), (3, .int l3), (4, .int l4)] dX11_driveNext_75 (by decide) rfl ?_
  refine z_iconst 1 1 dX11_driveNext_77 (by decide) ?_
  refine z_iload 0 dX11_driveNext_78 rfl ?_
  refine z_max mw_54_20 mw_8_21 mw_8_22 mw_8_23 (by decide) (Nat.le_of_ble_eq_true rfl) dX11_driveNext_80 ?_
  refine z_aload_n 1 dX11_driveNext_83 rfl rfl ?_
  refine z_gP (ci := 11) (k := 6) (C := RX11) (T := TX11) (N := 14) rfl inlX11 (by decide) mw_2_10 (fun _ _ _ _ h9 => h9) hf (by decide) rfl dX11_driveNext_84  (fun v15 hf => ?_)
  refine z_iload_n 2 dX11_driveNext_87 rfl rfl ?_
  refine z_aP hf dX11_driveNext_88  (fun v16 hf => ?_)
  refine z_aload_n 1 dX11_driveNext_89 rfl rfl ?_
  refine z_gP (ci := 11) (k := 1) (C := RX11) (T := TX11) (N := 14) rfl inlX11 (by decide) mw_1_19 (fun _ _ _ _ h9 => h9) hf (by decide) rfl dX11_driveNext_90  (fun v17 hf => ?_)
  refine z_gP (ci := 1) (k := 1) (C := RX1) (T := TX1) (N := 8) rfl inlX1 (by decide) mw_12_12 (fun _ _ _ _ h9 => h9) hf (by decide) rfl dX11_driveNext_93  (fun v18 hf => ?_)
  refine z_iload_n 3 dX11_driveNext_96 rfl rfl ?_
  refine z_bipush 6 6 dX11_driveNext_97 (by decide) ?_
  obtain ⟨v19, ev19, hf⟩ := ob hf
  refine z_cVi (ci := 8) (T := TX8) (N := 2) (As := [.int l3, .int (6 : Int32)]) (rest := [.ref v16, .int (o_max (1 : Int32) t0)]) (zm_X8_get ev19).2 (zm_X8_get ev19).1 (by decide) rfl (Or.inl rfl) mw_14_2 mw_10_11 mw_10_12 mw_3_13 mw_10_13 yk_X8_get (by decide) (by decide) rfl (Nat.le_of_ble_eq_true rfl) rfl dX11_driveNext_99 ?_
  obtain ⟨v20, ev20, hf⟩ := ob hf
  refine z_vtakes (rest := [.int (o_max (1 : Int32) t0)]) ev20 mw_34_5 (by decide) (Nat.le_of_ble_eq_true rfl) dX11_driveNext_102 ?_
  refine z_imul dX11_driveNext_105 ?_
  refine z_istore [(6, .int ((o_max (1 : Int32) t0) * v20.1)), (5, .int t0), (0, .ref l0), (1, .int l1), (3, .int l3), (4, .int l4)] dX11_driveNext_106 (by decide) rfl ?_
  refine z_iload 1 dX11_driveNext_108 rfl ?_
  refine z_if_ne 125 hf dX11_driveNext_110 (by decide) (fun hf => ?_) (fun hf => ?_)
  · refine z_iload 5 dX11_driveNext_125 rfl ?_
    refine z_if_eq 138 hf dX11_driveNext_127 (by decide) (fun hf => ?_) (fun hf => ?_)
    · refine z_lv [(0, .ref l0), (1, .int l1), (5, .int t0), (6, .int ((o_max (1 : Int32) t0) * v20.1))] [2, 3, 1, 0] rfl ?_
      exact zb_X11_driveNext_138 hE hf
    · refine z_aload_n 2 dX11_driveNext_130 rfl rfl ?_
      refine z_gP (ci := 11) (k := 1) (C := RX11) (T := TX11) (N := 14) rfl inlX11 (by decide) mw_1_19 (fun _ _ _ _ h9 => h9) hf (by decide) rfl dX11_driveNext_131  (fun v21 hf => ?_)
      refine z_iload_n 4 dX11_driveNext_134 rfl rfl ?_
      obtain ⟨v22, ev22, hf⟩ := ob hf
      refine z_cVv (ci := 1) (T := TX1) (N := 8) (As := [.int l3]) (rest := []) (zm_X1_clearSide ev22).2 (zm_X1_clearSide ev22).1 (by decide) rfl (Or.inl rfl) mw_54_22 mw_54_23 mw_55_0 mw_1_18 mw_55_1 yk_X1_clearSide (by decide) (by decide) rfl (Nat.le_of_ble_eq_true rfl) rfl dX11_driveNext_135 ?_
      refine z_lv [(0, .ref l0), (1, .int l1), (5, .int t0), (6, .int ((o_max (1 : Int32) t0) * v20.1))] [2, 3, 1, 0] rfl ?_
      exact zb_X11_driveNext_138 hE hf
  · refine z_aload_n 2 dX11_driveNext_113 rfl rfl ?_
    refine z_gP (ci := 11) (k := 0) (C := RX11) (T := TX11) (N := 14) rfl inlX11 (by decide) mw_1_15 (fun _ _ _ _ h9 => h9) hf (by decide) rfl dX11_driveNext_114  (fun v23 hf => ?_)
    refine z_bipush (-9) (-9) dX11_driveNext_117 (by decide) ?_
    obtain ⟨v24, ev24, hf⟩ := ob hf
    refine z_cVv (ci := 2) (T := TX2) (N := 4) (As := [.int (-9 : Int32)]) (rest := []) (zm_X2_find ev24).2 (zm_X2_find ev24).1 (by decide) rfl (Or.inl rfl) mw_8_3 mw_8_4 mw_8_5 mw_1_14 mw_8_6 yk_X2_find (by decide) (by decide) rfl (Nat.le_of_ble_eq_true rfl) rfl dX11_driveNext_119 ?_
    refine z_goto 138 dX11_driveNext_122 (by decide) ?_
    refine z_lv [(0, .ref l0), (1, .int l1), (5, .int t0), (6, .int ((o_max (1 : Int32) t0) * v20.1))] [2, 3, 1, 0] rfl ?_
    exact zb_X11_driveNext_138 hE hf
set_option maxRecDepth 20000 in
theorem zb_X11_driveNext_43 {N : Nat} {sh : Sh} {r : Dt} {E : EV} (hE : TG E none (sh, r))  {l0 : Nat} {l1 : Int32} {l3 : Int32} {t0 : Int32} {d : Dt} (hf : f_X11_driveNext_43 N sh l0 l1 l3 t0 d = some r) : Z E yX11_driveNext cX11_driveNext 8 none 4 (sh, d) 43 [(0, .ref l0), (1, .int l1), (3, .int l3)] [.int t0] := by
  unfold f_X11_driveNext_43 at hf
  refine z_istore [(4, .int t0), (0, .ref l0), (1, .int l1), (3, .int l3)] dX11_driveNext_43 (by decide) rfl ?_
  refine z_iload 0 dX11_driveNext_45 rfl ?_
  refine z_if_eq 74 hf dX11_driveNext_47 (by decide) (fun hf => ?_) (fun hf => ?_)
  · refine z_iconst 1 1 dX11_driveNext_74 (by decide) ?_
    refine z_lv [(0, .ref l0), (1, .int l1), (3, .int l3), (4, .int t0)] [1, 2, 3, 0] rfl ?_
    exact zb_X11_driveNext_75 hE hf
  · refine z_aload_n 1 dX11_driveNext_50 rfl rfl ?_
    refine z_gP (ci := 11) (k := 6) (C := RX11) (T := TX11) (N := 14) rfl inlX11 (by decide) mw_2_10 (fun _ _ _ _ h9 => h9) hf (by decide) rfl dX11_driveNext_51  (fun v9 hf => ?_)
    refine z_iload_n 2 dX11_driveNext_54 rfl rfl ?_
    refine z_aP hf dX11_driveNext_55  (fun v10 hf => ?_)
    refine z_aload_n 1 dX11_driveNext_56 rfl rfl ?_
    refine z_gP (ci := 11) (k := 1) (C := RX11) (T := TX11) (N := 14) rfl inlX11 (by decide) mw_1_19 (fun _ _ _ _ h9 => h9) hf (by decide) rfl dX11_driveNext_57  (fun v11 hf => ?_)
    refine z_gP (ci := 1) (k := 1) (C := RX1) (T := TX1) (N := 8) rfl inlX1 (by decide) mw_12_12 (fun _ _ _ _ h9 => h9) hf (by decide) rfl dX11_driveNext_60  (fun v12 hf => ?_)
    refine z_iload_n 3 dX11_driveNext_63 rfl rfl ?_
    refine z_iconst 0 0 dX11_driveNext_64 (by decide) ?_
    obtain ⟨v13, ev13, hf⟩ := ob hf
    refine z_cVi (ci := 8) (T := TX8) (N := 2) (As := [.int l3, .int (0 : Int32)]) (rest := [.ref v10]) (zm_X8_get ev13).2 (zm_X8_get ev13).1 (by decide) rfl (Or.inl rfl) mw_14_2 mw_10_11 mw_10_12 mw_3_13 mw_10_13 yk_X8_get (by decide) (by decide) rfl (Nat.le_of_ble_eq_true rfl) rfl dX11_driveNext_65 ?_
    obtain ⟨v14, ev14, hf⟩ := ob hf
    refine z_vpasses (rest := []) ev14 mw_35_15 (by decide) (Nat.le_of_ble_eq_true rfl) dX11_driveNext_68 ?_
    refine z_goto 75 dX11_driveNext_71 (by decide) ?_
    refine z_lv [(0, .ref l0), (1, .int l1), (3, .int l3), (4, .int t0)] [1, 2, 3, 0] rfl ?_
    exact zb_X11_driveNext_75 hE hf
set_option maxRecDepth 20000 in
theorem zm_X11_driveNext {N : Nat} {sh : Sh} {d : Dt} {l0 : Nat} {l1 : Int32} {r : Dt} (hf : f_X11_driveNext N sh l0 l1 d = some r) : isO sh l0 11 ∧ ∀ (l : Launch) (G : GG), Mt l G yX11_driveNext cX11_driveNext 8 none 4 [.ref l0, .int l1] (sh, d) none (sh, r) := by
  have hf0 := hf
  unfold f_X11_driveNext at hf
  refine ite_d hf (fun hO hf => ?_) (fun _ hf => ?_)
  · refine ⟨hO, fun l G => mt_of (Or.inl (by decide)) (Nat.le_of_ble_eq_true rfl) Le.rf (fun E hE => ?_)⟩
    show Z E yX11_driveNext cX11_driveNext 8 none 4 (sh, d) 0 [(0, .ref l0), (1, .int l1)] []
    refine z_aload_n 0 dX11_driveNext_0 rfl rfl ?_
    refine z_gP (ci := 11) (k := 1) (C := RX11) (T := TX11) (N := 14) rfl inlX11 (by decide) mw_1_19 (fun _ _ _ _ h9 => h9) hf (by decide) rfl dX11_driveNext_1  (fun v1 hf => ?_)
    refine z_iload_n 1 dX11_driveNext_4 rfl rfl ?_
    obtain ⟨v2, ev2, hf⟩ := ob hf
    refine z_cVi (ci := 1) (T := TX1) (N := 8) (As := [.int l1]) (rest := []) (zm_X1_nextDrive ev2).2 (zm_X1_nextDrive ev2).1 (by decide) rfl (Or.inl rfl) mw_54_21 mw_54_13 mw_54_14 mw_1_18 mw_54_15 yk_X1_nextDrive (by decide) (by decide) rfl (Nat.le_of_ble_eq_true rfl) rfl dX11_driveNext_5 ?_
    refine z_istore_n [(2, .int v2), (0, .ref l0), (1, .int l1)] dX11_driveNext_8 rfl (by decide) rfl ?_
    refine z_aload_n 1 dX11_driveNext_9 rfl rfl ?_
    refine z_gP (ci := 11) (k := 1) (C := RX11) (T := TX11) (N := 14) rfl inlX11 (by decide) mw_1_19 (fun _ _ _ _ h9 => h9) hf (by decide) rfl dX11_driveNext_10  (fun v3 hf => ?_)
    refine z_gP (ci := 1) (k := 4) (C := RX1) (T := TX1) (N := 8) rfl inlX1 (by decide) mw_43_7 (fun _ _ _ _ h9 => h9) hf (by decide) rfl dX11_driveNext_13  (fun v4 hf => ?_)
    refine z_iload_n 0 dX11_driveNext_16 rfl rfl ?_
    refine z_iconst 0 0 dX11_driveNext_17 (by decide) ?_
    obtain ⟨v5, ev5, hf⟩ := ob hf
    refine z_cVi (ci := 8) (T := TX8) (N := 2) (As := [.int v2, .int (0 : Int32)]) (rest := []) (zm_X8_get ev5).2 (zm_X8_get ev5).1 (by decide) rfl (Or.inl rfl) mw_14_2 mw_10_11 mw_10_12 mw_3_13 mw_10_13 yk_X8_get (by decide) (by decide) rfl (Nat.le_of_ble_eq_true rfl) rfl dX11_driveNext_18 ?_
    refine z_istore_n [(3, .int v5), (2, .int v2), (0, .ref l0), (1, .int l1)] dX11_driveNext_21 rfl (by decide) rfl ?_
    refine z_aload_n 2 dX11_driveNext_22 rfl rfl ?_
    refine z_gP (ci := 11) (k := 1) (C := RX11) (T := TX11) (N := 14) rfl inlX11 (by decide) mw_1_19 (fun _ _ _ _ h9 => h9) hf (by decide) rfl dX11_driveNext_23  (fun v6 hf => ?_)
    refine z_gP (ci := 1) (k := 4) (C := RX1) (T := TX1) (N := 8) rfl inlX1 (by decide) mw_43_7 (fun _ _ _ _ h9 => h9) hf (by decide) rfl dX11_driveNext_26  (fun v7 hf => ?_)
    refine z_iload_n 1 dX11_driveNext_29 rfl rfl ?_
    refine z_iconst 3 3 dX11_driveNext_30 (by decide) ?_
    obtain ⟨v8, ev8, hf⟩ := ob hf
    refine z_cVi (ci := 8) (T := TX8) (N := 2) (As := [.int v2, .int (3 : Int32)]) (rest := []) (zm_X8_get ev8).2 (zm_X8_get ev8).1 (by decide) rfl (Or.inl rfl) mw_14_2 mw_10_11 mw_10_12 mw_3_13 mw_10_13 yk_X8_get (by decide) (by decide) rfl (Nat.le_of_ble_eq_true rfl) rfl dX11_driveNext_31 ?_
    refine z_iconst 1 1 dX11_driveNext_34 (by decide) ?_
    refine z_icmp_ne 42 hf dX11_driveNext_35 (by decide) (fun hf => ?_) (fun hf => ?_)
    · refine z_iconst 0 0 dX11_driveNext_42 (by decide) ?_
      refine z_lv [(0, .ref l0), (1, .int l1), (3, .int v5)] [2, 3, 0] rfl ?_
      exact zb_X11_driveNext_43 hE hf
    · refine z_iconst 1 1 dX11_driveNext_38 (by decide) ?_
      refine z_goto 43 dX11_driveNext_39 (by decide) ?_
      refine z_lv [(0, .ref l0), (1, .int l1), (3, .int v5)] [2, 3, 0] rfl ?_
      exact zb_X11_driveNext_43 hE hf
  · cases hf
set_option maxRecDepth 20000 in
theorem le_X8_add_39 {N : Nat} {r : Int32 × AS}  {l0 : Nat} {s : AS} (hf : f_X8_add_39 N l0 s = some r) : Le s r.2 := by
  unfold f_X8_add_39 at hf
  obtain ⟨v9, -, hf⟩ := ob hf
  obtain ⟨d10, -, hf⟩ := ob hf
  obtain ⟨v11, -, hf⟩ := ob hf
  cases hf
  exact Le.rf
set_option maxRecDepth 20000 in
theorem zb_X8_add_39 {N : Nat} {r : Int32 × AS} {E : EV} (hE : TG E (some (.int r.1)) r.2)   {l0 : Nat} {s : AS} (hf : f_X8_add_39 N l0 s = some r) : Z E yX8_add cX8_add 2 (some .int) 3 s 39 [(0, .ref l0)] [] := by
  unfold f_X8_add_39 at hf
  refine z_aload_n 0 dX8_add_39 rfl rfl ?_
  refine z_dup dX8_add_40 rfl ?_
  refine z_gI (ci := 8) (k := 1) (C := RX8) (T := TX8) (N := 2) rfl inlX8 (by decide) mw_4_2 (fun _ _ _ _ h9 => h9) hf (by decide) rfl dX8_add_41  (fun v9 hf => ?_)
  refine z_iconst 1 1 dX8_add_44 (by decide) ?_
  refine z_iadd dX8_add_45 ?_
  refine z_pI (ci := 8) (k := 1) (C := RX8) (T := TX8) (N := 2) rfl inlX8 (by decide) mw_4_2 (fun _ _ _ _ h9 => h9) tyX8 tyX8_ok nmX8 rfl hf (Or.inl (by decide)) rfl rfl rfl dX8_add_46  (fun d10 hf => ?_)
  refine z_aload_n 0 dX8_add_49 rfl rfl ?_
  refine z_gI (ci := 8) (k := 1) (C := RX8) (T := TX8) (N := 2) rfl inlX8 (by decide) mw_4_2 (fun _ _ _ _ h9 => h9) hf (by decide) rfl dX8_add_50  (fun v11 hf => ?_)
  refine z_iconst 1 1 dX8_add_53 (by decide) ?_
  refine z_isub dX8_add_54 ?_
  cases hf
  exact z_ireturn hE rfl dX8_add_55
set_option maxRecDepth 20000 in
theorem lg_X8_add_12 {N : Nat} {r : Int32 × AS} {k12 : Nat → Int32 → AS → Option (Int32 × AS)}  (hk12 : ∀ (l0 : Nat) (l1 : Int32) (s : AS), k12 l0 l1 s = some r → Le s r.2) {l0 : Nat} {l1 : Int32} {s : AS} (hf : g_X8_add_12 N k12 l0 l1 s = some r) : Le s r.2 := by
  unfold g_X8_add_12 at hf
  obtain ⟨v3, -, hf⟩ := ob hf
  obtain ⟨v4, -, hf⟩ := ob hf
  refine ite_c hf (fun hf => ?_) (fun hf => ?_)
  · exact Le.via (le_X8_add_39 hf) rfl
  · obtain ⟨v5, -, hf⟩ := ob hf
    obtain ⟨v6, -, hf⟩ := ob hf
    obtain ⟨v7, -, hf⟩ := ob hf
    obtain ⟨d8, -, hf⟩ := ob hf
    exact Le.via (hk12 _ _ _ hf) rfl
set_option maxRecDepth 20000 in
theorem le_X8_add_12 {N : Nat} {r : Int32 × AS}  : ∀ (n : Nat) (l0 : Nat) (l1 : Int32) (s : AS), f_X8_add_12 N n l0 l1 s = some r → Le s r.2 := by
  intro n
  induction n with
  | zero => intro l0 l1 s hf; cases hf
  | succ n ih => intro l0 l1 s hf; exact lg_X8_add_12 ih hf
set_option maxRecDepth 20000 in
theorem zg_X8_add_12 {N : Nat} {r : Int32 × AS} {k12 : Nat → Int32 → AS → Option (Int32 × AS)} {E : EV} (hE : TG E (some (.int r.1)) r.2)   (hk12 : ∀ (l0 : Nat) (l1 : Int32) (s : AS), k12 l0 l1 s = some r → Z E yX8_add cX8_add 2 (some .int) 3 s 12 [(0, .ref l0), (1, .int l1)] []) (hq12 : ∀ (l0 : Nat) (l1 : Int32) (s : AS), k12 l0 l1 s = some r → Le s r.2) {l0 : Nat} {l1 : Int32} {s : AS} (hf : g_X8_add_12 N k12 l0 l1 s = some r) : Z E yX8_add cX8_add 2 (some .int) 3 s 12 [(0, .ref l0), (1, .int l1)] [] := by
  unfold g_X8_add_12 at hf
  refine z_iload_n 1 dX8_add_12 rfl rfl ?_
  refine z_aload_n 0 dX8_add_13 rfl rfl ?_
  refine z_gP (ci := 8) (k := 0) (C := RX8) (T := TX8) (N := 2) rfl inlX8 (by decide) mw_4_4 (fun _ _ _ _ h9 => h9) hf (by decide) rfl dX8_add_14  (fun v3 hf => ?_)
  refine z_aLen hf dX8_add_17  (fun v4 hf => ?_)
  refine z_icmp_ge 39 hf dX8_add_18 (by decide) (fun hf => ?_) (fun hf => ?_)
  · refine z_lv [(0, .ref l0)] [0] rfl ?_
    exact zb_X8_add_39 hE hf
  · refine z_aload_n 0 dX8_add_21 rfl rfl ?_
    refine z_gP (ci := 8) (k := 0) (C := RX8) (T := TX8) (N := 2) rfl inlX8 (by decide) mw_4_4 (fun _ _ _ _ h9 => h9) hf (by decide) rfl dX8_add_22  (fun v5 hf => ?_)
    refine z_iload_n 1 dX8_add_25 rfl rfl ?_
    refine z_aR hf dX8_add_26  (fun v6 hf => ?_)
    refine z_aload_n 0 dX8_add_27 rfl rfl ?_
    refine z_gI (ci := 8) (k := 1) (C := RX8) (T := TX8) (N := 2) rfl inlX8 (by decide) mw_4_2 (fun _ _ _ _ h9 => h9) hf (by decide) rfl dX8_add_28  (fun v7 hf => ?_)
    refine z_iconst 0 0 dX8_add_31 (by decide) ?_
    refine z_sI hf dX8_add_32  (fun d8 hf => ?_)
    refine z_iinc [(1, .int (l1 + 1)), (0, .ref l0)] 1 (l1 + 1) dX8_add_33 rfl rfl (by decide) rfl ?_
    refine z_goto 12 dX8_add_36 (by decide) ?_
    refine z_lv [(0, .ref l0), (1, .int (l1 + 1))] [1, 0] rfl ?_
    exact hk12 _ _ _ hf
set_option maxRecDepth 20000 in
theorem zb_X8_add_12 {N : Nat} {r : Int32 × AS} {E : EV} (hE : TG E (some (.int r.1)) r.2)   : ∀ (n : Nat) (l0 : Nat) (l1 : Int32) (s : AS), f_X8_add_12 N n l0 l1 s = some r → Z E yX8_add cX8_add 2 (some .int) 3 s 12 [(0, .ref l0), (1, .int l1)] [] := by
  intro n
  induction n with
  | zero => intro l0 l1 s hf; cases hf
  | succ n ih => intro l0 l1 s hf; exact zg_X8_add_12 hE ih (le_X8_add_12 n) hf
set_option maxRecDepth 20000 in
theorem le_X8_add_10 {N : Nat} {r : Int32 × AS}  {l0 : Nat} {s : AS} (hf : f_X8_add_10 N l0 s = some r) : Le s r.2 := by
  unfold f_X8_add_10 at hf
  exact Le.via (le_X8_add_12 N _ _ _ hf) rfl
set_option maxRecDepth 20000 in
theorem zb_X8_add_10 {N : Nat} {r : Int32 × AS} {E : EV} (hE : TG E (some (.int r.1)) r.2)   {l0 : Nat} {s : AS} (hf : f_X8_add_10 N l0 s = some r) : Z E yX8_add cX8_add 2 (some .int) 3 s 10 [(0, .ref l0)] [] := by
  unfold f_X8_add_10 at hf
  refine z_iconst 0 0 dX8_add_10 (by decide) ?_
  refine z_istore_n [(1, .int (0 : Int32)), (0, .ref l0)] dX8_add_11 rfl (by decide) rfl ?_
  refine z_lv [(0, .ref l0), (1, .int (0 : Int32))] [1, 0] rfl ?_
  exact zb_X8_add_12 hE N _ _ _ hf
set_option maxRecDepth 20000 in
theorem lm_X8_add {N : Nat} {s : AS} {l0 : Nat} {r : Int32 × AS} (hf : f_X8_add N l0 s = some r) : Le s r.2 := by
  unfold f_X8_add at hf
  refine ite_c hf (fun hf => ?_) (fun hf => ?_)
  · skip
    obtain ⟨v1, -, hf⟩ := ob hf
    obtain ⟨v2, ev2, hf⟩ := ob hf
    refine Le.of (t := (s.1, s.2)) rfl ((lm_X8_widen ev2).tr ?_)
    exact Le.via (le_X8_add_10 hf) rfl
  · cases hf
set_option maxRecDepth 20000 in
theorem zm_X8_add {N : Nat} {s : AS} {l0 : Nat} {r : Int32 × AS} (hf : f_X8_add N l0 s = some r) : isO s.1 l0 8 ∧ ∀ (l : Launch) (G : GG), Mt l G yX8_add cX8_add 2 (some .int) 3 [.ref l0] s (some (.int r.1)) r.2 := by
  have hf0 := hf
  unfold f_X8_add at hf
  refine ite_d hf (fun hO hf => ?_) (fun _ hf => ?_)
  · refine ⟨hO, fun l G => mt_of (Or.inl (by decide)) (Nat.le_of_ble_eq_true rfl) (lm_X8_add hf0) (fun E hE => ?_)⟩
    show Z E yX8_add cX8_add 2 (some .int) 3 s 0 [(0, .ref l0)] []
    refine z_aload_n 0 dX8_add_0 rfl rfl ?_
    refine z_aload_n 0 dX8_add_1 rfl rfl ?_
    refine z_gI (ci := 8) (k := 1) (C := RX8) (T := TX8) (N := 2) rfl inlX8 (by decide) mw_4_2 (fun _ _ _ _ h9 => h9) hf (by decide) rfl dX8_add_2  (fun v1 hf => ?_)
    refine z_iconst 1 1 dX8_add_5 (by decide) ?_
    refine z_iadd dX8_add_6 ?_
    obtain ⟨v2, ev2, hf⟩ := ob hf
    refine z_cVv (ci := 8) (T := TX8) (N := 2) (As := [.int (v1 + (1 : Int32))]) (rest := []) (zm_X8_widen ev2).2 (zm_X8_widen ev2).1 (by decide) rfl (Or.inr (tg_le hE (le_X8_add_10 hf))) mw_9_5 mw_9_6 mw_9_7 mw_3_13 mw_9_8 yk_X8_widen (by decide) (by decide) rfl (Nat.le_of_ble_eq_true rfl) rfl dX8_add_7 ?_
    exact zb_X8_add_10 hE hf
  · cases hf
set_option maxRecDepth 20000 in
theorem le_X11_enlist_10 {N : Nat} {r : Int32 × AS}  {l0 : Nat} {l1 : Nat} {l2 : Int32} {l3 : Int32} {t0 : Int32} {s : AS} (hf : f_X11_enlist_10 N l0 l1 l2 l3 t0 s = some r) : Le s r.2 := by
  unfold f_X11_enlist_10 at hf
  obtain ⟨v4, -, hf⟩ := ob hf
  obtain ⟨d5, -, hf⟩ := ob hf
  obtain ⟨v6, -, hf⟩ := ob hf
  obtain ⟨v7, -, hf⟩ := ob hf
  obtain ⟨v8, -, hf⟩ := ob hf
  obtain ⟨v9, -, hf⟩ := ob hf
  obtain ⟨v10, -, hf⟩ := ob hf
  obtain ⟨v11, -, hf⟩ := ob hf
  cases hf
  exact Le.rf
set_option maxRecDepth 20000 in
theorem zb_X11_enlist_10 {N : Nat} {r : Int32 × AS} {E : EV} (hE : TG E (some (.int r.1)) r.2)   {l0 : Nat} {l1 : Nat} {l2 : Int32} {l3 : Int32} {t0 : Int32} {s : AS} (hf : f_X11_enlist_10 N l0 l1 l2 l3 t0 s = some r) : Z E yX11_enlist cX11_enlist 5 (some .int) 4 s 10 [(0, .ref l0), (1, .ref l1), (2, .int l2), (3, .int l3)] [.int t0] := by
  unfold f_X11_enlist_10 at hf
  refine z_istore [(4, .int t0), (0, .ref l0), (1, .ref l1), (2, .int l2), (3, .int l3)] dX11_enlist_10 (by decide) rfl ?_
  refine z_aload_n 1 dX11_enlist_12 rfl rfl ?_
  refine z_gP (ci := 11) (k := 6) (C := RX11) (T := TX11) (N := 14) rfl inlX11 (by decide) mw_2_10 (fun _ _ _ _ h9 => h9) hf (by decide) rfl dX11_enlist_13  (fun v4 hf => ?_)
  refine z_iload 0 dX11_enlist_16 rfl ?_
  refine z_aload_n 2 dX11_enlist_18 rfl rfl ?_
  refine z_sP hf dX11_enlist_19  (fun d5 hf => ?_)
  refine z_aload_n 1 dX11_enlist_20 rfl rfl ?_
  refine z_gP (ci := 11) (k := 1) (C := RX11) (T := TX11) (N := 14) rfl inlX11 (by decide) mw_1_19 (fun _ _ _ _ h9 => h9) hf (by decide) rfl dX11_enlist_21  (fun v6 hf => ?_)
  refine z_gP (ci := 1) (k := 3) (C := RX1) (T := TX1) (N := 8) rfl inlX1 (by decide) mw_29_16 (fun _ _ _ _ h9 => h9) hf (by decide) rfl dX11_enlist_24  (fun v7 hf => ?_)
  refine z_iload 0 dX11_enlist_27 rfl ?_
  refine z_bipush 6 6 dX11_enlist_29 (by decide) ?_
  refine z_iload_n 3 dX11_enlist_31 rfl rfl ?_
  obtain ⟨v8, ev8, hf⟩ := ob hf
  refine z_cVv (ci := 8) (T := TX8) (N := 2) (As := [.int t0, .int (6 : Int32), .int l2]) (rest := []) (zm_X8_put ev8).2 (zm_X8_put ev8).1 (by decide) rfl (Or.inl rfl) mw_12_22 mw_12_23 mw_13_0 mw_3_13 mw_13_1 yk_X8_put (by decide) (by decide) rfl (Nat.le_of_ble_eq_true rfl) rfl dX11_enlist_32 ?_
  refine z_aload_n 1 dX11_enlist_35 rfl rfl ?_
  refine z_gP (ci := 11) (k := 1) (C := RX11) (T := TX11) (N := 14) rfl inlX11 (by decide) mw_1_19 (fun _ _ _ _ h9 => h9) hf (by decide) rfl dX11_enlist_36  (fun v9 hf => ?_)
  refine z_gP (ci := 1) (k := 3) (C := RX1) (T := TX1) (N := 8) rfl inlX1 (by decide) mw_29_16 (fun _ _ _ _ h9 => h9) hf (by decide) rfl dX11_enlist_39  (fun v10 hf => ?_)
  refine z_iload 0 dX11_enlist_42 rfl ?_
  refine z_iconst 5 5 dX11_enlist_44 (by decide) ?_
  refine z_iload_n 4 dX11_enlist_45 rfl rfl ?_
  obtain ⟨v11, ev11, hf⟩ := ob hf
  refine z_cVv (ci := 8) (T := TX8) (N := 2) (As := [.int t0, .int (5 : Int32), .int l3]) (rest := []) (zm_X8_put ev11).2 (zm_X8_put ev11).1 (by decide) rfl (Or.inl rfl) mw_12_22 mw_12_23 mw_13_0 mw_3_13 mw_13_1 yk_X8_put (by decide) (by decide) rfl (Nat.le_of_ble_eq_true rfl) rfl dX11_enlist_46 ?_
  refine z_iload 0 dX11_enlist_49 rfl ?_
  cases hf
  exact z_ireturn hE rfl dX11_enlist_51
set_option maxRecDepth 20000 in
theorem lm_X11_enlist {N : Nat} {s : AS} {l0 : Nat} {l1 : Nat} {l2 : Int32} {l3 : Int32} {r : Int32 × AS} (hf : f_X11_enlist N l0 l1 l2 l3 s = some r) : Le s r.2 := by
  unfold f_X11_enlist at hf
  refine ite_c hf (fun hf => ?_) (fun hf => ?_)
  · skip
    obtain ⟨v1, -, hf⟩ := ob hf
    obtain ⟨v2, -, hf⟩ := ob hf
    obtain ⟨v3, ev3, hf⟩ := ob hf
    refine Le.of (t := (s.1, s.2)) rfl ((lm_X8_add ev3).tr ?_)
    exact Le.via (le_X11_enlist_10 hf) rfl
  · cases hf
set_option maxRecDepth 20000 in
theorem zm_X11_enlist {N : Nat} {s : AS} {l0 : Nat} {l1 : Nat} {l2 : Int32} {l3 : Int32} {r : Int32 × AS} (hf : f_X11_enlist N l0 l1 l2 l3 s = some r) : isO s.1 l0 11 ∧ ∀ (l : Launch) (G : GG), Mt l G yX11_enlist cX11_enlist 5 (some .int) 4 [.ref l0, .ref l1, .int l2, .int l3] s (some (.int r.1)) r.2 := by
  have hf0 := hf
  unfold f_X11_enlist at hf
  refine ite_d hf (fun hO hf => ?_) (fun _ hf => ?_)
  · refine ⟨hO, fun l G => mt_of (Or.inl (by decide)) (Nat.le_of_ble_eq_true rfl) (lm_X11_enlist hf0) (fun E hE => ?_)⟩
    show Z E yX11_enlist cX11_enlist 5 (some .int) 4 s 0 [(0, .ref l0), (1, .ref l1), (2, .int l2), (3, .int l3)] []
    refine z_aload_n 0 dX11_enlist_0 rfl rfl ?_
    refine z_gP (ci := 11) (k := 1) (C := RX11) (T := TX11) (N := 14) rfl inlX11 (by decide) mw_1_19 (fun _ _ _ _ h9 => h9) hf (by decide) rfl dX11_enlist_1  (fun v1 hf => ?_)
    refine z_gP (ci := 1) (k := 3) (C := RX1) (T := TX1) (N := 8) rfl inlX1 (by decide) mw_29_16 (fun _ _ _ _ h9 => h9) hf (by decide) rfl dX11_enlist_4  (fun v2 hf => ?_)
    obtain ⟨v3, ev3, hf⟩ := ob hf
    refine z_cVi (ci := 8) (T := TX8) (N := 2) (As := []) (rest := []) (zm_X8_add ev3).2 (zm_X8_add ev3).1 (by decide) rfl (Or.inr (tg_le hE (le_X11_enlist_10 hf))) mw_12_18 mw_12_19 mw_12_20 mw_3_13 mw_12_21 yk_X8_add (by decide) (by decide) rfl (Nat.le_of_ble_eq_true rfl) rfl dX11_enlist_7 ?_
    exact zb_X11_enlist_10 hE hf
  · cases hf
