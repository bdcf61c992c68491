set_option maxRecDepth 20000 in
theorem le_X1_init_85 {N : Nat} {r : AS}  {l0 : Nat} {t0 : Nat} {t1 : Nat} {s : AS} (hf : f_X1_init_85 N l0 t0 t1 s = some r) : Le s r := by
  unfold f_X1_init_85 at hf
  obtain ⟨d15, -, hf⟩ := ob hf
  obtain ⟨v16, -, hf⟩ := ob hf
  obtain ⟨v17, -, hf⟩ := ob hf
  cases hf
  exact Le.rf
set_option maxRecDepth 20000 in
theorem zb_X1_init_85 {N : Nat} {r : AS} {E : EV} (hE : TG E none r)  {l0 : Nat} {t0 : Nat} {t1 : Nat} {s : AS} (hf : f_X1_init_85 N l0 t0 t1 s = some r) : Z E yX1_init cX1_init 1 none 2 s 85 [(0, .ref l0)] [.ref t1, .ref t0] := by
  unfold f_X1_init_85 at hf
  refine z_pQ (ci := 1) (k := 7) (C := RX1) (T := TX1) (N := 8) rfl inlX1 (by decide) mw_3_21 (fun _ _ _ _ h9 => h9) tyX1 tyX1_ok nmX1 rfl hf (by decide) rfl rfl rfl dX1_init_85  (fun d15 hf => ?_)
  refine z_aload_n 0 dX1_init_88 rfl rfl ?_
  refine z_gP (ci := 1) (k := 6) (C := RX1) (T := TX1) (N := 8) rfl inlX1 (by decide) mw_3_19 (fun _ _ _ _ h9 => h9) hf (by decide) rfl dX1_init_89  (fun v16 hf => ?_)
  refine z_iconst (-1) (-1) dX1_init_92 (by decide) ?_
  obtain ⟨v17, ev17, hf⟩ := ob hf
  refine z_cTv (As := [.ref v16, .int (-1 : Int32)]) (rest := []) (zm_J7_fill_53178 ev17) (Or.inl rfl) mw_4_5 mw_4_6 mw_4_7 mw_4_8 yk_J7_fill_53178 (by decide) (by decide) rfl (Nat.le_of_ble_eq_true rfl) rfl dX1_init_93 ?_
  cases hf
  exact z_return hE rfl dX1_init_96
set_option maxRecDepth 20000 in
theorem le_X1_init_81 {N : Nat} {r : AS}  {l0 : Nat} {s : AS} (hf : f_X1_init_81 N l0 s = some r) : Le s r := by
  unfold f_X1_init_81 at hf
  obtain ⟨s14, es14, hf⟩ := ob hf
  refine Le.of (t := (s.1, s.2)) rfl ((le_nArr es14).tr ?_)
  exact Le.via (le_X1_init_85 hf) rfl
set_option maxRecDepth 20000 in
theorem zb_X1_init_81 {N : Nat} {r : AS} {E : EV} (hE : TG E none r)  {l0 : Nat} {s : AS} (hf : f_X1_init_81 N l0 s = some r) : Z E yX1_init cX1_init 1 none 2 s 81 [(0, .ref l0)] [] := by
  unfold f_X1_init_81 at hf
  refine z_aload_n 0 dX1_init_81 rfl rfl ?_
  refine z_iconst 0 0 dX1_init_82 (by decide) ?_
  refine z_na1 hf (fun _ hf => tg_le hE (le_X1_init_85 hf)) mw_3_20 dX1_init_83 (fun s14 hf => ?_)
  exact zb_X1_init_85 hE hf
set_option maxRecDepth 20000 in
theorem le_X1_init_78 {N : Nat} {r : AS}  {l0 : Nat} {t0 : Nat} {t1 : Nat} {s : AS} (hf : f_X1_init_78 N l0 t0 t1 s = some r) : Le s r := by
  unfold f_X1_init_78 at hf
  obtain ⟨s13, es13, hf⟩ := ob hf
  refine Le.of (t := (s.1, s.2)) rfl ((le_pP es13).tr ?_)
  exact Le.via (le_X1_init_81 hf) rfl
set_option maxRecDepth 20000 in
theorem zb_X1_init_78 {N : Nat} {r : AS} {E : EV} (hE : TG E none r)  {l0 : Nat} {t0 : Nat} {t1 : Nat} {s : AS} (hf : f_X1_init_78 N l0 t0 t1 s = some r) : Z E yX1_init cX1_init 1 none 2 s 78 [(0, .ref l0)] [.ref t1, .ref t0] := by
  unfold f_X1_init_78 at hf
  refine z_pP (ci := 1) (k := 6) (C := RX1) (T := TX1) (N := 8) rfl inlX1 (by decide) mw_3_19 (fun _ _ _ _ h9 => h9) tyX1 tyX1_ok nmX1 rfl rfl rfl hf (Or.inl (by decide)) rfl rfl rfl dX1_init_78 (fun s13 es13 hf => ?_)
  exact zb_X1_init_81 hE hf
set_option maxRecDepth 20000 in
theorem le_X1_init_73 {N : Nat} {r : AS}  {l0 : Nat} {s : AS} (hf : f_X1_init_73 N l0 s = some r) : Le s r := by
  unfold f_X1_init_73 at hf
  obtain ⟨s12, es12, hf⟩ := ob hf
  refine Le.of (t := (s.1, s.2)) rfl ((le_nArr es12).tr ?_)
  exact Le.via (le_X1_init_78 hf) rfl
set_option maxRecDepth 20000 in
theorem zb_X1_init_73 {N : Nat} {r : AS} {E : EV} (hE : TG E none r)  {l0 : Nat} {s : AS} (hf : f_X1_init_73 N l0 s = some r) : Z E yX1_init cX1_init 1 none 2 s 73 [(0, .ref l0)] [] := by
  unfold f_X1_init_73 at hf
  refine z_aload_n 0 dX1_init_73 rfl rfl ?_
  refine z_bipush 60 60 dX1_init_74 (by decide) ?_
  refine z_na0 hf (fun _ hf => tg_le hE (le_X1_init_78 hf)) mw_2_13 dX1_init_76 (fun s12 hf => ?_)
  exact zb_X1_init_78 hE hf
set_option maxRecDepth 20000 in
theorem le_X1_init_70 {N : Nat} {r : AS}  {l0 : Nat} {t0 : Nat} {t1 : Nat} {s : AS} (hf : f_X1_init_70 N l0 t0 t1 s = some r) : Le s r := by
  unfold f_X1_init_70 at hf
  obtain ⟨s11, es11, hf⟩ := ob hf
  refine Le.of (t := (s.1, s.2)) rfl ((le_pP es11).tr ?_)
  exact Le.via (le_X1_init_73 hf) rfl
set_option maxRecDepth 20000 in
theorem zb_X1_init_70 {N : Nat} {r : AS} {E : EV} (hE : TG E none r)  {l0 : Nat} {t0 : Nat} {t1 : Nat} {s : AS} (hf : f_X1_init_70 N l0 t0 t1 s = some r) : Z E yX1_init cX1_init 1 none 2 s 70 [(0, .ref l0)] [.ref t1, .ref t0] := by
  unfold f_X1_init_70 at hf
  refine z_pP (ci := 1) (k := 5) (C := RX1) (T := TX1) (N := 8) rfl inlX1 (by decide) mw_3_18 (fun _ _ _ _ h9 => h9) tyX1 tyX1_ok nmX1 rfl rfl rfl hf (Or.inl (by decide)) rfl rfl rfl dX1_init_70 (fun s11 es11 hf => ?_)
  exact zb_X1_init_73 hE hf
set_option maxRecDepth 20000 in
theorem le_X1_init_65 {N : Nat} {r : AS}  {l0 : Nat} {s : AS} (hf : f_X1_init_65 N l0 s = some r) : Le s r := by
  unfold f_X1_init_65 at hf
  obtain ⟨s10, es10, hf⟩ := ob hf
  refine Le.of (t := (s.1, s.2)) rfl ((le_nArr es10).tr ?_)
  exact Le.via (le_X1_init_70 hf) rfl
set_option maxRecDepth 20000 in
theorem zb_X1_init_65 {N : Nat} {r : AS} {E : EV} (hE : TG E none r)  {l0 : Nat} {s : AS} (hf : f_X1_init_65 N l0 s = some r) : Z E yX1_init cX1_init 1 none 2 s 65 [(0, .ref l0)] [] := by
  unfold f_X1_init_65 at hf
  refine z_aload_n 0 dX1_init_65 rfl rfl ?_
  refine z_bipush 7 7 dX1_init_66 (by decide) ?_
  refine z_na0 hf (fun _ hf => tg_le hE (le_X1_init_70 hf)) mw_2_13 dX1_init_68 (fun s10 hf => ?_)
  exact zb_X1_init_70 hE hf
set_option maxRecDepth 20000 in
theorem le_X1_init_62 {N : Nat} {r : AS}  {l0 : Nat} {t0 : Nat} {t1 : Nat} {s : AS} (hf : f_X1_init_62 N l0 t0 t1 s = some r) : Le s r := by
  unfold f_X1_init_62 at hf
  obtain ⟨s9, es9, hf⟩ := ob hf
  refine Le.of (t := (s.1, s.2)) rfl ((le_pP es9).tr ?_)
  exact Le.via (le_X1_init_65 hf) rfl
set_option maxRecDepth 20000 in
theorem zb_X1_init_62 {N : Nat} {r : AS} {E : EV} (hE : TG E none r)  {l0 : Nat} {t0 : Nat} {t1 : Nat} {s : AS} (hf : f_X1_init_62 N l0 t0 t1 s = some r) : Z E yX1_init cX1_init 1 none 2 s 62 [(0, .ref l0)] [.ref t1, .ref t0] := by
  unfold f_X1_init_62 at hf
  refine z_pP (ci := 1) (k := 4) (C := RX1) (T := TX1) (N := 8) rfl inlX1 (by decide) mw_3_17 (fun _ _ _ _ h9 => h9) tyX1 tyX1_ok nmX1 rfl rfl rfl hf (Or.inl (by decide)) rfl rfl rfl dX1_init_62 (fun s9 es9 hf => ?_)
  exact zb_X1_init_65 hE hf
set_option maxRecDepth 20000 in
theorem le_X1_init_55 {N : Nat} {r : AS}  {l0 : Nat} {t0 : Nat} {t1 : Nat} {s : AS} (hf : f_X1_init_55 N l0 t0 t1 s = some r) : Le s r := by
  unfold f_X1_init_55 at hf
  obtain ⟨v8, ev8, hf⟩ := ob hf
  refine Le.of (t := (s.1, s.2)) rfl ((lm_X8_init ev8).tr ?_)
  exact Le.via (le_X1_init_62 hf) rfl
set_option maxRecDepth 20000 in
theorem zb_X1_init_55 {N : Nat} {r : AS} {E : EV} (hE : TG E none r)  {l0 : Nat} {t0 : Nat} {t1 : Nat} {s : AS} (hf : f_X1_init_55 N l0 t0 t1 s = some r) : Z E yX1_init cX1_init 1 none 2 s 55 [(0, .ref l0)] [.ref t1, .ref t0] := by
  unfold f_X1_init_55 at hf
  refine z_dup dX1_init_55 rfl ?_
  refine z_iconst 4 4 dX1_init_56 (by decide) ?_
  refine z_bipush 16 16 dX1_init_57 (by decide) ?_
  obtain ⟨v8, ev8, hf⟩ := ob hf
  refine z_cI (As := [.int (4 : Int32), .int (16 : Int32)]) (rest := [.ref t1, .ref t0]) (zm_X8_init ev8).2 (Or.inr (tg_le hE (le_X1_init_62 hf))) mw_3_22 mw_3_23 mw_3_13 mw_4_0 rfl yk_X8_init (by decide) (by decide) rfl (Nat.le_of_ble_eq_true rfl) rfl dX1_init_59 ?_
  exact zb_X1_init_62 hE hf
set_option maxRecDepth 20000 in
theorem le_X1_init_51 {N : Nat} {r : AS}  {l0 : Nat} {s : AS} (hf : f_X1_init_51 N l0 s = some r) : Le s r := by
  unfold f_X1_init_51 at hf
  refine Le.of (t := (s.1, s.2)) rfl (le_nObj.tr (u := _) (t := nObj (s.1, s.2) 8) ?_)
  exact Le.via (le_X1_init_55 hf) rfl
set_option maxRecDepth 20000 in
theorem zb_X1_init_51 {N : Nat} {r : AS} {E : EV} (hE : TG E none r)  {l0 : Nat} {s : AS} (hf : f_X1_init_51 N l0 s = some r) : Z E yX1_init cX1_init 1 none 2 s 51 [(0, .ref l0)] [] := by
  unfold f_X1_init_51 at hf
  refine z_aload_n 0 dX1_init_51 rfl rfl ?_
  refine z_newo (ci := 8) (C := RX8) (T := TX8) (N := 2) rfl inlX8 tyX8 tyX8_ok mw_3_11 mw_3_12 mw_3_13 rfl df_8 (tg_le hE (le_X1_init_55 hf)) dX1_init_52 ?_
  exact zb_X1_init_55 hE hf
set_option maxRecDepth 20000 in
theorem le_X1_init_48 {N : Nat} {r : AS}  {l0 : Nat} {t0 : Nat} {t1 : Nat} {s : AS} (hf : f_X1_init_48 N l0 t0 t1 s = some r) : Le s r := by
  unfold f_X1_init_48 at hf
  obtain ⟨s7, es7, hf⟩ := ob hf
  refine Le.of (t := (s.1, s.2)) rfl ((le_pP es7).tr ?_)
  exact Le.via (le_X1_init_51 hf) rfl
set_option maxRecDepth 20000 in
theorem zb_X1_init_48 {N : Nat} {r : AS} {E : EV} (hE : TG E none r)  {l0 : Nat} {t0 : Nat} {t1 : Nat} {s : AS} (hf : f_X1_init_48 N l0 t0 t1 s = some r) : Z E yX1_init cX1_init 1 none 2 s 48 [(0, .ref l0)] [.ref t1, .ref t0] := by
  unfold f_X1_init_48 at hf
  refine z_pP (ci := 1) (k := 3) (C := RX1) (T := TX1) (N := 8) rfl inlX1 (by decide) mw_3_16 (fun _ _ _ _ h9 => h9) tyX1 tyX1_ok nmX1 rfl rfl rfl hf (Or.inl (by decide)) rfl rfl rfl dX1_init_48 (fun s7 es7 hf => ?_)
  exact zb_X1_init_51 hE hf
set_option maxRecDepth 20000 in
theorem le_X1_init_41 {N : Nat} {r : AS}  {l0 : Nat} {t0 : Nat} {t1 : Nat} {s : AS} (hf : f_X1_init_41 N l0 t0 t1 s = some r) : Le s r := by
  unfold f_X1_init_41 at hf
  obtain ⟨v6, ev6, hf⟩ := ob hf
  refine Le.of (t := (s.1, s.2)) rfl ((lm_X8_init ev6).tr ?_)
  exact Le.via (le_X1_init_48 hf) rfl
set_option maxRecDepth 20000 in
theorem zb_X1_init_41 {N : Nat} {r : AS} {E : EV} (hE : TG E none r)  {l0 : Nat} {t0 : Nat} {t1 : Nat} {s : AS} (hf : f_X1_init_41 N l0 t0 t1 s = some r) : Z E yX1_init cX1_init 1 none 2 s 41 [(0, .ref l0)] [.ref t1, .ref t0] := by
  unfold f_X1_init_41 at hf
  refine z_dup dX1_init_41 rfl ?_
  refine z_bipush 9 9 dX1_init_42 (by decide) ?_
  refine z_iconst 4 4 dX1_init_44 (by decide) ?_
  obtain ⟨v6, ev6, hf⟩ := ob hf
  refine z_cI (As := [.int (9 : Int32), .int (4 : Int32)]) (rest := [.ref t1, .ref t0]) (zm_X8_init ev6).2 (Or.inr (tg_le hE (le_X1_init_48 hf))) mw_3_22 mw_3_23 mw_3_13 mw_4_0 rfl yk_X8_init (by decide) (by decide) rfl (Nat.le_of_ble_eq_true rfl) rfl dX1_init_45 ?_
  exact zb_X1_init_48 hE hf
set_option maxRecDepth 20000 in
theorem le_X1_init_37 {N : Nat} {r : AS}  {l0 : Nat} {s : AS} (hf : f_X1_init_37 N l0 s = some r) : Le s r := by
  unfold f_X1_init_37 at hf
  refine Le.of (t := (s.1, s.2)) rfl (le_nObj.tr (u := _) (t := nObj (s.1, s.2) 8) ?_)
  exact Le.via (le_X1_init_41 hf) rfl
set_option maxRecDepth 20000 in
theorem zb_X1_init_37 {N : Nat} {r : AS} {E : EV} (hE : TG E none r)  {l0 : Nat} {s : AS} (hf : f_X1_init_37 N l0 s = some r) : Z E yX1_init cX1_init 1 none 2 s 37 [(0, .ref l0)] [] := by
  unfold f_X1_init_37 at hf
  refine z_aload_n 0 dX1_init_37 rfl rfl ?_
  refine z_newo (ci := 8) (C := RX8) (T := TX8) (N := 2) rfl inlX8 tyX8 tyX8_ok mw_3_11 mw_3_12 mw_3_13 rfl df_8 (tg_le hE (le_X1_init_41 hf)) dX1_init_38 ?_
  exact zb_X1_init_41 hE hf
set_option maxRecDepth 20000 in
theorem le_X1_init_34 {N : Nat} {r : AS}  {l0 : Nat} {t0 : Nat} {t1 : Nat} {s : AS} (hf : f_X1_init_34 N l0 t0 t1 s = some r) : Le s r := by
  unfold f_X1_init_34 at hf
  obtain ⟨s5, es5, hf⟩ := ob hf
  refine Le.of (t := (s.1, s.2)) rfl ((le_pP es5).tr ?_)
  exact Le.via (le_X1_init_37 hf) rfl
set_option maxRecDepth 20000 in
theorem zb_X1_init_34 {N : Nat} {r : AS} {E : EV} (hE : TG E none r)  {l0 : Nat} {t0 : Nat} {t1 : Nat} {s : AS} (hf : f_X1_init_34 N l0 t0 t1 s = some r) : Z E yX1_init cX1_init 1 none 2 s 34 [(0, .ref l0)] [.ref t1, .ref t0] := by
  unfold f_X1_init_34 at hf
  refine z_pP (ci := 1) (k := 2) (C := RX1) (T := TX1) (N := 8) rfl inlX1 (by decide) mw_3_15 (fun _ _ _ _ h9 => h9) tyX1 tyX1_ok nmX1 rfl rfl rfl hf (Or.inl (by decide)) rfl rfl rfl dX1_init_34 (fun s5 es5 hf => ?_)
  exact zb_X1_init_37 hE hf
set_option maxRecDepth 20000 in
theorem le_X1_init_28 {N : Nat} {r : AS}  {l0 : Nat} {t0 : Nat} {t1 : Nat} {s : AS} (hf : f_X1_init_28 N l0 t0 t1 s = some r) : Le s r := by
  unfold f_X1_init_28 at hf
  obtain ⟨v4, ev4, hf⟩ := ob hf
  refine Le.of (t := (s.1, s.2)) rfl ((lm_X8_init ev4).tr ?_)
  exact Le.via (le_X1_init_34 hf) rfl
set_option maxRecDepth 20000 in
theorem zb_X1_init_28 {N : Nat} {r : AS} {E : EV} (hE : TG E none r)  {l0 : Nat} {t0 : Nat} {t1 : Nat} {s : AS} (hf : f_X1_init_28 N l0 t0 t1 s = some r) : Z E yX1_init cX1_init 1 none 2 s 28 [(0, .ref l0)] [.ref t1, .ref t0] := by
  unfold f_X1_init_28 at hf
  refine z_dup dX1_init_28 rfl ?_
  refine z_iconst 3 3 dX1_init_29 (by decide) ?_
  refine z_iconst 4 4 dX1_init_30 (by decide) ?_
  obtain ⟨v4, ev4, hf⟩ := ob hf
  refine z_cI (As := [.int (3 : Int32), .int (4 : Int32)]) (rest := [.ref t1, .ref t0]) (zm_X8_init ev4).2 (Or.inr (tg_le hE (le_X1_init_34 hf))) mw_3_22 mw_3_23 mw_3_13 mw_4_0 rfl yk_X8_init (by decide) (by decide) rfl (Nat.le_of_ble_eq_true rfl) rfl dX1_init_31 ?_
  exact zb_X1_init_34 hE hf
set_option maxRecDepth 20000 in
theorem le_X1_init_24 {N : Nat} {r : AS}  {l0 : Nat} {s : AS} (hf : f_X1_init_24 N l0 s = some r) : Le s r := by
  unfold f_X1_init_24 at hf
  refine Le.of (t := (s.1, s.2)) rfl (le_nObj.tr (u := _) (t := nObj (s.1, s.2) 8) ?_)
  exact Le.via (le_X1_init_28 hf) rfl
set_option maxRecDepth 20000 in
theorem zb_X1_init_24 {N : Nat} {r : AS} {E : EV} (hE : TG E none r)  {l0 : Nat} {s : AS} (hf : f_X1_init_24 N l0 s = some r) : Z E yX1_init cX1_init 1 none 2 s 24 [(0, .ref l0)] [] := by
  unfold f_X1_init_24 at hf
  refine z_aload_n 0 dX1_init_24 rfl rfl ?_
  refine z_newo (ci := 8) (C := RX8) (T := TX8) (N := 2) rfl inlX8 tyX8 tyX8_ok mw_3_11 mw_3_12 mw_3_13 rfl df_8 (tg_le hE (le_X1_init_28 hf)) dX1_init_25 ?_
  exact zb_X1_init_28 hE hf
set_option maxRecDepth 20000 in
theorem le_X1_init_21 {N : Nat} {r : AS}  {l0 : Nat} {t0 : Nat} {t1 : Nat} {s : AS} (hf : f_X1_init_21 N l0 t0 t1 s = some r) : Le s r := by
  unfold f_X1_init_21 at hf
  obtain ⟨s3, es3, hf⟩ := ob hf
  refine Le.of (t := (s.1, s.2)) rfl ((le_pP es3).tr ?_)
  exact Le.via (le_X1_init_24 hf) rfl
set_option maxRecDepth 20000 in
theorem zb_X1_init_21 {N : Nat} {r : AS} {E : EV} (hE : TG E none r)  {l0 : Nat} {t0 : Nat} {t1 : Nat} {s : AS} (hf : f_X1_init_21 N l0 t0 t1 s = some r) : Z E yX1_init cX1_init 1 none 2 s 21 [(0, .ref l0)] [.ref t1, .ref t0] := by
  unfold f_X1_init_21 at hf
  refine z_pP (ci := 1) (k := 1) (C := RX1) (T := TX1) (N := 8) rfl inlX1 (by decide) mw_3_14 (fun _ _ _ _ h9 => h9) tyX1 tyX1_ok nmX1 rfl rfl rfl hf (Or.inl (by decide)) rfl rfl rfl dX1_init_21 (fun s3 es3 hf => ?_)
  exact zb_X1_init_24 hE hf
set_option maxRecDepth 20000 in
theorem le_X1_init_13 {N : Nat} {r : AS}  {l0 : Nat} {t0 : Nat} {t1 : Nat} {s : AS} (hf : f_X1_init_13 N l0 t0 t1 s = some r) : Le s r := by
  unfold f_X1_init_13 at hf
  obtain ⟨v2, ev2, hf⟩ := ob hf
  refine Le.of (t := (s.1, s.2)) rfl ((lm_X8_init ev2).tr ?_)
  exact Le.via (le_X1_init_21 hf) rfl
set_option maxRecDepth 20000 in
theorem zb_X1_init_13 {N : Nat} {r : AS} {E : EV} (hE : TG E none r)  {l0 : Nat} {t0 : Nat} {t1 : Nat} {s : AS} (hf : f_X1_init_13 N l0 t0 t1 s = some r) : Z E yX1_init cX1_init 1 none 2 s 13 [(0, .ref l0)] [.ref t1, .ref t0] := by
  unfold f_X1_init_13 at hf
  refine z_dup dX1_init_13 rfl ?_
  refine z_bipush 9 9 dX1_init_14 (by decide) ?_
  refine z_bipush 16 16 dX1_init_16 (by decide) ?_
  obtain ⟨v2, ev2, hf⟩ := ob hf
  refine z_cI (As := [.int (9 : Int32), .int (16 : Int32)]) (rest := [.ref t1, .ref t0]) (zm_X8_init ev2).2 (Or.inr (tg_le hE (le_X1_init_21 hf))) mw_3_22 mw_3_23 mw_3_13 mw_4_0 rfl yk_X8_init (by decide) (by decide) rfl (Nat.le_of_ble_eq_true rfl) rfl dX1_init_18 ?_
  exact zb_X1_init_21 hE hf
set_option maxRecDepth 20000 in
theorem lm_X1_init {N : Nat} {s : AS} {l0 : Nat} {r : AS} (hf : f_X1_init N l0 s = some r) : Le s r := by
  unfold f_X1_init at hf
  split at hf
  · skip
    obtain ⟨d1, -, hf⟩ := ob hf
    refine Le.of (t := (s.1, d1)) rfl (le_nObj.tr (u := _) (t := nObj (s.1, d1) 8) ?_)
    exact Le.via (le_X1_init_13 hf) rfl
  · cases hf
set_option maxRecDepth 20000 in
theorem zm_X1_init {N : Nat} {s : AS} {l0 : Nat} {r : AS} (hf : f_X1_init N l0 s = some r) : isO s.1 l0 1 ∧ ∀ (l : Launch) (G : GG), Mt l G yX1_init cX1_init 1 none 2 [.ref l0] s none r := by
  have hf0 := hf
  unfold f_X1_init at hf
  split at hf
  · rename_i hO
    refine ⟨hO, fun l G => mt_of (Or.inl (by decide)) (Nat.le_of_ble_eq_true rfl) (lm_X1_init hf0) (fun E hE => ?_)⟩
    show Z E yX1_init cX1_init 1 none 2 s 0 [(0, .ref l0)] []
    refine z_aload_n 0 dX1_init_0 rfl rfl ?_
    refine z_objInit mw_3_9 mw_1_10 mw_1_11 (by decide) (Nat.le_of_ble_eq_true rfl) dX1_init_1 ?_
    refine z_aload_n 0 dX1_init_4 rfl rfl ?_
    refine z_iconst 0 0 dX1_init_5 (by decide) ?_
    refine z_pI (ci := 1) (k := 0) (C := RX1) (T := TX1) (N := 8) rfl inlX1 (by decide) mw_3_10 (fun _ _ _ _ h9 => h9) tyX1 tyX1_ok nmX1 rfl hf (Or.inl (by decide)) rfl rfl rfl dX1_init_6  (fun d1 hf => ?_)
    refine z_aload_n 0 dX1_init_9 rfl rfl ?_
    refine z_newo (ci := 8) (C := RX8) (T := TX8) (N := 2) rfl inlX8 tyX8 tyX8_ok mw_3_11 mw_3_12 mw_3_13 rfl df_8 (tg_le hE (le_X1_init_13 hf)) dX1_init_10 ?_
    exact zb_X1_init_13 hE hf
  · cases hf
set_option maxRecDepth 20000 in
theorem le_X4_init_82 {N : Nat} {r : AS}   {s : AS} (hf : f_X4_init_82 N  s = some r) : Le s r := by
  unfold f_X4_init_82 at hf
  cases hf
  exact Le.rf
set_option maxRecDepth 20000 in
theorem zb_X4_init_82 {N : Nat} {r : AS} {E : EV} (hE : TG E none r)   {s : AS} (hf : f_X4_init_82 N  s = some r) : Z E yX4_init cX4_init 3 none 1 s 82 [] [] := by
  unfold f_X4_init_82 at hf
  cases hf
  exact z_return hE rfl dX4_init_82
set_option maxRecDepth 20000 in
theorem le_X4_init_77 {N : Nat} {r : AS}  {l0 : Nat} {l2 : Nat} {s : AS} (hf : f_X4_init_77 N l0 l2 s = some r) : Le s r := by
  unfold f_X4_init_77 at hf
  obtain ⟨s17, es17, hf⟩ := ob hf
  refine Le.of (t := (s.1, s.2)) rfl ((le_pP es17).tr ?_)
  exact Le.via (le_X4_init_82 hf) rfl
set_option maxRecDepth 20000 in
theorem zb_X4_init_77 {N : Nat} {r : AS} {E : EV} (hE : TG E none r)  {l0 : Nat} {l2 : Nat} {s : AS} (hf : f_X4_init_77 N l0 l2 s = some r) : Z E yX4_init cX4_init 3 none 1 s 77 [(0, .ref l0), (2, .ref l2)] [] := by
  unfold f_X4_init_77 at hf
  refine z_aload_n 0 dX4_init_77 rfl rfl ?_
  refine z_aload_n 1 dX4_init_78 rfl rfl ?_
  refine z_pP (ci := 4) (k := 1) (C := RX4) (T := TX4) (N := 12) rfl inlX4 (by decide) mw_5_12 (fun _ _ _ _ h9 => h9) tyX4 tyX4_ok nmX4 rfl rfl rfl hf (Or.inl (by decide)) rfl rfl rfl dX4_init_79 (fun s17 es17 hf => ?_)
  refine z_lv [] [] rfl ?_
  exact zb_X4_init_82 hE hf
set_option maxRecDepth 20000 in
theorem le_X4_init_62 {N : Nat} {r : AS}  {l0 : Nat} {l1 : Nat} {l2 : Nat} {s : AS} (hf : f_X4_init_62 N l0 l1 l2 s = some r) : Le s r := by
  unfold f_X4_init_62 at hf
  obtain ⟨d14, -, hf⟩ := ob hf
  obtain ⟨d15, -, hf⟩ := ob hf
  obtain ⟨s16, es16, hf⟩ := ob hf
  refine Le.of (t := (s.1, d15)) rfl ((le_pP es16).tr ?_)
  exact Le.via (le_X4_init_77 hf) rfl
set_option maxRecDepth 20000 in
theorem zb_X4_init_62 {N : Nat} {r : AS} {E : EV} (hE : TG E none r)  {l0 : Nat} {l1 : Nat} {l2 : Nat} {s : AS} (hf : f_X4_init_62 N l0 l1 l2 s = some r) : Z E yX4_init cX4_init 3 none 1 s 62 [(0, .ref l0), (1, .ref l1), (2, .ref l2)] [] := by
  unfold f_X4_init_62 at hf
  refine z_aload_n 0 dX4_init_62 rfl rfl ?_
  refine z_iconst 0 0 dX4_init_63 (by decide) ?_
  refine z_pI (ci := 4) (k := 10) (C := RX4) (T := TX4) (N := 12) rfl inlX4 (by decide) mw_5_9 (fun _ _ _ _ h9 => h9) tyX4 tyX4_ok nmX4 rfl hf (Or.inl (by decide)) rfl rfl rfl dX4_init_64  (fun d14 hf => ?_)
  refine z_aload_n 0 dX4_init_67 rfl rfl ?_
  refine z_iconst 0 0 dX4_init_68 (by decide) ?_
  refine z_pI (ci := 4) (k := 11) (C := RX4) (T := TX4) (N := 12) rfl inlX4 (by decide) mw_5_10 (fun _ _ _ _ h9 => h9) tyX4 tyX4_ok nmX4 rfl hf (Or.inl (by decide)) rfl rfl rfl dX4_init_69  (fun d15 hf => ?_)
  refine z_aload_n 0 dX4_init_72 rfl rfl ?_
  refine z_aload_n 1 dX4_init_73 rfl rfl ?_
  refine z_pP (ci := 4) (k := 0) (C := RX4) (T := TX4) (N := 12) rfl inlX4 (by decide) mw_5_11 (fun _ _ _ _ h9 => h9) tyX4 tyX4_ok nmX4 rfl rfl rfl hf (Or.inl (by decide)) rfl rfl rfl dX4_init_74 (fun s16 es16 hf => ?_)
  refine z_lv [(0, .ref l0), (2, .ref l2)] [0, 2] rfl ?_
  exact zb_X4_init_77 hE hf
set_option maxRecDepth 20000 in
theorem le_X4_init_59 {N : Nat} {r : AS}  {l0 : Nat} {l1 : Nat} {l2 : Nat} {t0 : Nat} {t1 : Nat} {s : AS} (hf : f_X4_init_59 N l0 l1 l2 t0 t1 s = some r) : Le s r := by
  unfold f_X4_init_59 at hf
  obtain ⟨s13, es13, hf⟩ := ob hf
  refine Le.of (t := (s.1, s.2)) rfl ((le_pP es13).tr ?_)
  exact Le.via (le_X4_init_62 hf) rfl
set_option maxRecDepth 20000 in
theorem zb_X4_init_59 {N : Nat} {r : AS} {E : EV} (hE : TG E none r)  {l0 : Nat} {l1 : Nat} {l2 : Nat} {t0 : Nat} {t1 : Nat} {s : AS} (hf : f_X4_init_59 N l0 l1 l2 t0 t1 s = some r) : Z E yX4_init cX4_init 3 none 1 s 59 [(0, .ref l0), (1, .ref l1), (2, .ref l2)] [.ref t1, .ref t0] := by
  unfold f_X4_init_59 at hf
  refine z_pP (ci := 4) (k := 9) (C := RX4) (T := TX4) (N := 12) rfl inlX4 (by decide) mw_5_8 (fun _ _ _ _ h9 => h9) tyX4 tyX4_ok nmX4 rfl rfl rfl hf (Or.inl (by decide)) rfl rfl rfl dX4_init_59 (fun s13 es13 hf => ?_)
  exact zb_X4_init_62 hE hf
set_option maxRecDepth 20000 in
theorem le_X4_init_54 {N : Nat} {r : AS}  {l0 : Nat} {l1 : Nat} {l2 : Nat} {s : AS} (hf : f_X4_init_54 N l0 l1 l2 s = some r) : Le s r := by
  unfold f_X4_init_54 at hf
  obtain ⟨s12, es12, hf⟩ := ob hf
  refine Le.of (t := (s.1, s.2)) rfl ((le_nArr es12).tr ?_)
  exact Le.via (le_X4_init_59 hf) rfl
set_option maxRecDepth 20000 in
theorem zb_X4_init_54 {N : Nat} {r : AS} {E : EV} (hE : TG E none r)  {l0 : Nat} {l1 : Nat} {l2 : Nat} {s : AS} (hf : f_X4_init_54 N l0 l1 l2 s = some r) : Z E yX4_init cX4_init 3 none 1 s 54 [(0, .ref l0), (1, .ref l1), (2, .ref l2)] [] := by
  unfold f_X4_init_54 at hf
  refine z_aload_n 0 dX4_init_54 rfl rfl ?_
  refine z_bipush 30 30 dX4_init_55 (by decide) ?_
  refine z_na0 hf (fun _ hf => tg_le hE (le_X4_init_59 hf)) mw_2_13 dX4_init_57 (fun s12 hf => ?_)
  exact zb_X4_init_59 hE hf
set_option maxRecDepth 20000 in
theorem le_X4_init_51 {N : Nat} {r : AS}  {l0 : Nat} {l1 : Nat} {l2 : Nat} {t0 : Nat} {t1 : Nat} {s : AS} (hf : f_X4_init_51 N l0 l1 l2 t0 t1 s = some r) : Le s r := by
  unfold f_X4_init_51 at hf
  obtain ⟨s11, es11, hf⟩ := ob hf
  refine Le.of (t := (s.1, s.2)) rfl ((le_pP es11).tr ?_)
  exact Le.via (le_X4_init_54 hf) rfl
set_option maxRecDepth 20000 in
theorem zb_X4_init_51 {N : Nat} {r : AS} {E : EV} (hE : TG E none r)  {l0 : Nat} {l1 : Nat} {l2 : Nat} {t0 : Nat} {t1 : Nat} {s : AS} (hf : f_X4_init_51 N l0 l1 l2 t0 t1 s = some r) : Z E yX4_init cX4_init 3 none 1 s 51 [(0, .ref l0), (1, .ref l1), (2, .ref l2)] [.ref t1, .ref t0] := by
  unfold f_X4_init_51 at hf
  refine z_pP (ci := 4) (k := 8) (C := RX4) (T := TX4) (N := 12) rfl inlX4 (by decide) mw_5_7 (fun _ _ _ _ h9 => h9) tyX4 tyX4_ok nmX4 rfl rfl rfl hf (Or.inl (by decide)) rfl rfl rfl dX4_init_51 (fun s11 es11 hf => ?_)
  exact zb_X4_init_54 hE hf
set_option maxRecDepth 20000 in
theorem le_X4_init_38 {N : Nat} {r : AS}  {l0 : Nat} {l1 : Nat} {l2 : Nat} {t0 : Nat} {t1 : Nat} {s : AS} (hf : f_X4_init_38 N l0 l1 l2 t0 t1 s = some r) : Le s r := by
  unfold f_X4_init_38 at hf
  obtain ⟨d8, -, hf⟩ := ob hf
  obtain ⟨d9, -, hf⟩ := ob hf
  obtain ⟨s10, es10, hf⟩ := ob hf
  refine Le.of (t := (s.1, d9)) rfl ((le_nArr es10).tr ?_)
  exact Le.via (le_X4_init_51 hf) rfl
set_option maxRecDepth 20000 in
theorem zb_X4_init_38 {N : Nat} {r : AS} {E : EV} (hE : TG E none r)  {l0 : Nat} {l1 : Nat} {l2 : Nat} {t0 : Nat} {t1 : Nat} {s : AS} (hf : f_X4_init_38 N l0 l1 l2 t0 t1 s = some r) : Z E yX4_init cX4_init 3 none 1 s 38 [(0, .ref l0), (1, .ref l1), (2, .ref l2)] [.ref t1, .ref t0] := by
  unfold f_X4_init_38 at hf
  refine z_pQ (ci := 4) (k := 6) (C := RX4) (T := TX4) (N := 12) rfl inlX4 (by decide) mw_5_5 (fun _ _ _ _ h9 => h9) tyX4 tyX4_ok nmX4 rfl hf (by decide) rfl rfl rfl dX4_init_38  (fun d8 hf => ?_)
  refine z_aload_n 0 dX4_init_41 rfl rfl ?_
  refine z_iconst 0 0 dX4_init_42 (by decide) ?_
  refine z_pI (ci := 4) (k := 7) (C := RX4) (T := TX4) (N := 12) rfl inlX4 (by decide) mw_5_6 (fun _ _ _ _ h9 => h9) tyX4 tyX4_ok nmX4 rfl hf (Or.inl (by decide)) rfl rfl rfl dX4_init_43  (fun d9 hf => ?_)
  refine z_aload_n 0 dX4_init_46 rfl rfl ?_
  refine z_bipush 30 30 dX4_init_47 (by decide) ?_
  refine z_na0 hf (fun _ hf => tg_le hE (le_X4_init_51 hf)) mw_2_13 dX4_init_49 (fun s10 hf => ?_)
  exact zb_X4_init_51 hE hf
set_option maxRecDepth 20000 in
theorem le_X4_init_34 {N : Nat} {r : AS}  {l0 : Nat} {l1 : Nat} {l2 : Nat} {s : AS} (hf : f_X4_init_34 N l0 l1 l2 s = some r) : Le s r := by
  unfold f_X4_init_34 at hf
  obtain ⟨s7, es7, hf⟩ := ob hf
  refine Le.of (t := (s.1, s.2)) rfl ((le_nArr es7).tr ?_)
  exact Le.via (le_X4_init_38 hf) rfl
set_option maxRecDepth 20000 in
theorem zb_X4_init_34 {N : Nat} {r : AS} {E : EV} (hE : TG E none r)  {l0 : Nat} {l1 : Nat} {l2 : Nat} {s : AS} (hf : f_X4_init_34 N l0 l1 l2 s = some r) : Z E yX4_init cX4_init 3 none 1 s 34 [(0, .ref l0), (1, .ref l1), (2, .ref l2)] [] := by
  unfold f_X4_init_34 at hf
  refine z_aload_n 0 dX4_init_34 rfl rfl ?_
  refine z_iconst 1 1 dX4_init_35 (by decide) ?_
  refine z_na0 hf (fun _ hf => tg_le hE (le_X4_init_38 hf)) mw_2_13 dX4_init_36 (fun s7 hf => ?_)
  exact zb_X4_init_38 hE hf
set_option maxRecDepth 20000 in
theorem le_X4_init_31 {N : Nat} {r : AS}  {l0 : Nat} {l1 : Nat} {l2 : Nat} {t0 : Nat} {t1 : Nat} {s : AS} (hf : f_X4_init_31 N l0 l1 l2 t0 t1 s = some r) : Le s r := by
  unfold f_X4_init_31 at hf
  obtain ⟨s6, es6, hf⟩ := ob hf
  refine Le.of (t := (s.1, s.2)) rfl ((le_pP es6).tr ?_)
  exact Le.via (le_X4_init_34 hf) rfl
set_option maxRecDepth 20000 in
theorem zb_X4_init_31 {N : Nat} {r : AS} {E : EV} (hE : TG E none r)  {l0 : Nat} {l1 : Nat} {l2 : Nat} {t0 : Nat} {t1 : Nat} {s : AS} (hf : f_X4_init_31 N l0 l1 l2 t0 t1 s = some r) : Z E yX4_init cX4_init 3 none 1 s 31 [(0, .ref l0), (1, .ref l1), (2, .ref l2)] [.ref t1, .ref t0] := by
  unfold f_X4_init_31 at hf
  refine z_pP (ci := 4) (k := 5) (C := RX4) (T := TX4) (N := 12) rfl inlX4 (by decide) mw_5_4 (fun _ _ _ _ h9 => h9) tyX4 tyX4_ok nmX4 rfl rfl rfl hf (Or.inl (by decide)) rfl rfl rfl dX4_init_31 (fun s6 es6 hf => ?_)
  exact zb_X4_init_34 hE hf
set_option maxRecDepth 20000 in
theorem le_X4_init_12 {N : Nat} {r : AS}  {l0 : Nat} {l1 : Nat} {l2 : Nat} {s : AS} (hf : f_X4_init_12 N l0 l1 l2 s = some r) : Le s r := by
  unfold f_X4_init_12 at hf
  obtain ⟨d3, -, hf⟩ := ob hf
  obtain ⟨d4, -, hf⟩ := ob hf
  obtain ⟨s5, es5, hf⟩ := ob hf
  refine Le.of (t := (s.1, d4)) rfl ((le_nMul es5).tr ?_)
  exact Le.via (le_X4_init_31 hf) rfl
set_option maxRecDepth 20000 in
theorem zb_X4_init_12 {N : Nat} {r : AS} {E : EV} (hE : TG E none r)  {l0 : Nat} {l1 : Nat} {l2 : Nat} {s : AS} (hf : f_X4_init_12 N l0 l1 l2 s = some r) : Z E yX4_init cX4_init 3 none 1 s 12 [(0, .ref l0), (1, .ref l1), (2, .ref l2)] [] := by
  unfold f_X4_init_12 at hf
  refine z_aload_n 0 dX4_init_12 rfl rfl ?_
  refine z_iconst 0 0 dX4_init_13 (by decide) ?_
  refine z_pI (ci := 4) (k := 3) (C := RX4) (T := TX4) (N := 12) rfl inlX4 (by decide) mw_5_1 (fun _ _ _ _ h9 => h9) tyX4 tyX4_ok nmX4 rfl hf (Or.inl (by decide)) rfl rfl rfl dX4_init_14  (fun d3 hf => ?_)
  refine z_aload_n 0 dX4_init_17 rfl rfl ?_
  refine z_iconst 0 0 dX4_init_18 (by decide) ?_
  refine z_pI (ci := 4) (k := 4) (C := RX4) (T := TX4) (N := 12) rfl inlX4 (by decide) mw_5_2 (fun _ _ _ _ h9 => h9) tyX4 tyX4_ok nmX4 rfl hf (Or.inl (by decide)) rfl rfl rfl dX4_init_19  (fun d4 hf => ?_)
  refine z_aload_n 0 dX4_init_22 rfl rfl ?_
  refine z_bipush 14 14 dX4_init_23 (by decide) ?_
  refine z_bipush 14 14 dX4_init_25 (by decide) ?_
  refine z_mul hf (fun _ hf => tg_le hE (le_X4_init_31 hf)) mw_5_3 mw_2_13 dX4_init_27 (fun s5 hf => ?_)
  exact zb_X4_init_31 hE hf
set_option maxRecDepth 20000 in
theorem le_X4_init_9 {N : Nat} {r : AS}  {l0 : Nat} {l1 : Nat} {l2 : Nat} {t0 : Nat} {t1 : Nat} {s : AS} (hf : f_X4_init_9 N l0 l1 l2 t0 t1 s = some r) : Le s r := by
  unfold f_X4_init_9 at hf
  obtain ⟨s2, es2, hf⟩ := ob hf
  refine Le.of (t := (s.1, s.2)) rfl ((le_pP es2).tr ?_)
  exact Le.via (le_X4_init_12 hf) rfl
set_option maxRecDepth 20000 in
theorem zb_X4_init_9 {N : Nat} {r : AS} {E : EV} (hE : TG E none r)  {l0 : Nat} {l1 : Nat} {l2 : Nat} {t0 : Nat} {t1 : Nat} {s : AS} (hf : f_X4_init_9 N l0 l1 l2 t0 t1 s = some r) : Z E yX4_init cX4_init 3 none 1 s 9 [(0, .ref l0), (1, .ref l1), (2, .ref l2)] [.ref t1, .ref t0] := by
  unfold f_X4_init_9 at hf
  refine z_pP (ci := 4) (k := 2) (C := RX4) (T := TX4) (N := 12) rfl inlX4 (by decide) mw_5_0 (fun _ _ _ _ h9 => h9) tyX4 tyX4_ok nmX4 rfl rfl rfl hf (Or.inl (by decide)) rfl rfl rfl dX4_init_9 (fun s2 es2 hf => ?_)
  exact zb_X4_init_12 hE hf
set_option maxRecDepth 20000 in
theorem lm_X4_init {N : Nat} {s : AS} {l0 : Nat} {l1 : Nat} {l2 : Nat} {r : AS} (hf : f_X4_init N l0 l1 l2 s = some r) : Le s r := by
  unfold f_X4_init at hf
  split at hf
  · skip
    obtain ⟨s1, es1, hf⟩ := ob hf
    refine Le.of (t := (s.1, s.2)) rfl ((le_nArr es1).tr ?_)
    exact Le.via (le_X4_init_9 hf) rfl
  · cases hf
set_option maxRecDepth 20000 in
theorem zm_X4_init {N : Nat} {s : AS} {l0 : Nat} {l1 : Nat} {l2 : Nat} {r : AS} (hf : f_X4_init N l0 l1 l2 s = some r) : isO s.1 l0 4 ∧ ∀ (l : Launch) (G : GG), Mt l G yX4_init cX4_init 3 none 1 [.ref l0, .ref l1, .ref l2] s none r := by
  have hf0 := hf
  unfold f_X4_init at hf
  split at hf
  · rename_i hO
    refine ⟨hO, fun l G => mt_of (Or.inl (by decide)) (Nat.le_of_ble_eq_true rfl) (lm_X4_init hf0) (fun E hE => ?_)⟩
    show Z E yX4_init cX4_init 3 none 1 s 0 [(0, .ref l0), (1, .ref l1), (2, .ref l2)] []
    refine z_aload_n 0 dX4_init_0 rfl rfl ?_
    refine z_objInit mw_4_23 mw_1_10 mw_1_11 (by decide) (Nat.le_of_ble_eq_true rfl) dX4_init_1 ?_
    refine z_aload_n 0 dX4_init_4 rfl rfl ?_
    refine z_bipush 60 60 dX4_init_5 (by decide) ?_
    refine z_na0 hf (fun _ hf => tg_le hE (le_X4_init_9 hf)) mw_2_13 dX4_init_7 (fun s1 hf => ?_)
    exact zb_X4_init_9 hE hf
  · cases hf
set_option maxRecDepth 20000 in
theorem le_X5_init_103 {N : Nat} {r : AS}   {s : AS} (hf : f_X5_init_103 N  s = some r) : Le s r := by
  unfold f_X5_init_103 at hf
  cases hf
  exact Le.rf
set_option maxRecDepth 20000 in
theorem zb_X5_init_103 {N : Nat} {r : AS} {E : EV} (hE : TG E none r)   {s : AS} (hf : f_X5_init_103 N  s = some r) : Z E yX5_init cX5_init 4 none 2 s 103 [] [] := by
  unfold f_X5_init_103 at hf
  cases hf
  exact z_return hE rfl dX5_init_103
set_option maxRecDepth 20000 in
theorem le_X5_init_98 {N : Nat} {r : AS}  {l0 : Nat} {l3 : Nat} {s : AS} (hf : f_X5_init_98 N l0 l3 s = some r) : Le s r := by
  unfold f_X5_init_98 at hf
  obtain ⟨s21, es21, hf⟩ := ob hf
  refine Le.of (t := (s.1, s.2)) rfl ((le_pP es21).tr ?_)
  exact Le.via (le_X5_init_103 hf) rfl
set_option maxRecDepth 20000 in
theorem zb_X5_init_98 {N : Nat} {r : AS} {E : EV} (hE : TG E none r)  {l0 : Nat} {l3 : Nat} {s : AS} (hf : f_X5_init_98 N l0 l3 s = some r) : Z E yX5_init cX5_init 4 none 2 s 98 [(0, .ref l0), (3, .ref l3)] [] := by
  unfold f_X5_init_98 at hf
  refine z_aload_n 0 dX5_init_98 rfl rfl ?_
  refine z_aload_n 1 dX5_init_99 rfl rfl ?_
  refine z_pP (ci := 5) (k := 2) (C := RX5) (T := TX5) (N := 13) rfl inlX5 (by decide) mw_6_6 (fun _ _ _ _ h9 => h9) tyX5 tyX5_ok nmX5 rfl rfl rfl hf (Or.inl (by decide)) rfl rfl rfl dX5_init_100 (fun s21 es21 hf => ?_)
  refine z_lv [] [] rfl ?_
  exact zb_X5_init_103 hE hf
set_option maxRecDepth 20000 in
theorem le_X5_init_93 {N : Nat} {r : AS}  {l0 : Nat} {l2 : Nat} {l3 : Nat} {s : AS} (hf : f_X5_init_93 N l0 l2 l3 s = some r) : Le s r := by
  unfold f_X5_init_93 at hf
  obtain ⟨s20, es20, hf⟩ := ob hf
  refine Le.of (t := (s.1, s.2)) rfl ((le_pP es20).tr ?_)
  exact Le.via (le_X5_init_98 hf) rfl
set_option maxRecDepth 20000 in
theorem zb_X5_init_93 {N : Nat} {r : AS} {E : EV} (hE : TG E none r)  {l0 : Nat} {l2 : Nat} {l3 : Nat} {s : AS} (hf : f_X5_init_93 N l0 l2 l3 s = some r) : Z E yX5_init cX5_init 4 none 2 s 93 [(0, .ref l0), (2, .ref l2), (3, .ref l3)] [] := by
  unfold f_X5_init_93 at hf
  refine z_aload_n 0 dX5_init_93 rfl rfl ?_
  refine z_aload_n 1 dX5_init_94 rfl rfl ?_
  refine z_pP (ci := 5) (k := 1) (C := RX5) (T := TX5) (N := 13) rfl inlX5 (by decide) mw_6_5 (fun _ _ _ _ h9 => h9) tyX5 tyX5_ok nmX5 rfl rfl rfl hf (Or.inl (by decide)) rfl rfl rfl dX5_init_95 (fun s20 es20 hf => ?_)
  refine z_lv [(0, .ref l0), (3, .ref l3)] [0, 2] rfl ?_
  exact zb_X5_init_98 hE hf
set_option maxRecDepth 20000 in
theorem le_X5_init_83 {N : Nat} {r : AS}  {l0 : Nat} {l1 : Nat} {l2 : Nat} {l3 : Nat} {s : AS} (hf : f_X5_init_83 N l0 l1 l2 l3 s = some r) : Le s r := by
  unfold f_X5_init_83 at hf
  obtain ⟨d18, -, hf⟩ := ob hf
  obtain ⟨s19, es19, hf⟩ := ob hf
  refine Le.of (t := (s.1, d18)) rfl ((le_pP es19).tr ?_)
  exact Le.via (le_X5_init_93 hf) rfl
set_option maxRecDepth 20000 in
theorem zb_X5_init_83 {N : Nat} {r : AS} {E : EV} (hE : TG E none r)  {l0 : Nat} {l1 : Nat} {l2 : Nat} {l3 : Nat} {s : AS} (hf : f_X5_init_83 N l0 l1 l2 l3 s = some r) : Z E yX5_init cX5_init 4 none 2 s 83 [(0, .ref l0), (1, .ref l1), (2, .ref l2), (3, .ref l3)] [] := by
  unfold f_X5_init_83 at hf
  refine z_aload_n 0 dX5_init_83 rfl rfl ?_
  refine z_iconst 0 0 dX5_init_84 (by decide) ?_
  refine z_pI (ci := 5) (k := 12) (C := RX5) (T := TX5) (N := 13) rfl inlX5 (by decide) mw_6_3 (fun _ _ _ _ h9 => h9) tyX5 tyX5_ok nmX5 rfl hf (Or.inl (by decide)) rfl rfl rfl dX5_init_85  (fun d18 hf => ?_)
  refine z_aload_n 0 dX5_init_88 rfl rfl ?_
  refine z_aload_n 1 dX5_init_89 rfl rfl ?_
  refine z_pP (ci := 5) (k := 0) (C := RX5) (T := TX5) (N := 13) rfl inlX5 (by decide) mw_6_4 (fun _ _ _ _ h9 => h9) tyX5 tyX5_ok nmX5 rfl rfl rfl hf (Or.inl (by decide)) rfl rfl rfl dX5_init_90 (fun s19 es19 hf => ?_)
  refine z_lv [(0, .ref l0), (2, .ref l2), (3, .ref l3)] [0, 2, 3] rfl ?_
  exact zb_X5_init_93 hE hf
set_option maxRecDepth 20000 in
theorem le_X5_init_80 {N : Nat} {r : AS}  {l0 : Nat} {l1 : Nat} {l2 : Nat} {l3 : Nat} {t0 : Nat} {t1 : Nat} {s : AS} (hf : f_X5_init_80 N l0 l1 l2 l3 t0 t1 s = some r) : Le s r := by
  unfold f_X5_init_80 at hf
  obtain ⟨s17, es17, hf⟩ := ob hf
  refine Le.of (t := (s.1, s.2)) rfl ((le_pP es17).tr ?_)
  exact Le.via (le_X5_init_83 hf) rfl
set_option maxRecDepth 20000 in
theorem zb_X5_init_80 {N : Nat} {r : AS} {E : EV} (hE : TG E none r)  {l0 : Nat} {l1 : Nat} {l2 : Nat} {l3 : Nat} {t0 : Nat} {t1 : Nat} {s : AS} (hf : f_X5_init_80 N l0 l1 l2 l3 t0 t1 s = some r) : Z E yX5_init cX5_init 4 none 2 s 80 [(0, .ref l0), (1, .ref l1), (2, .ref l2), (3, .ref l3)] [.ref t1, .ref t0] := by
  unfold f_X5_init_80 at hf
  refine z_pP (ci := 5) (k := 11) (C := RX5) (T := TX5) (N := 13) rfl inlX5 (by decide) mw_6_2 (fun _ _ _ _ h9 => h9) tyX5 tyX5_ok nmX5 rfl rfl rfl hf (Or.inl (by decide)) rfl rfl rfl dX5_init_80 (fun s17 es17 hf => ?_)
  exact zb_X5_init_83 hE hf
set_option maxRecDepth 20000 in
theorem le_X5_init_75 {N : Nat} {r : AS}  {l0 : Nat} {l1 : Nat} {l2 : Nat} {l3 : Nat} {s : AS} (hf : f_X5_init_75 N l0 l1 l2 l3 s = some r) : Le s r := by
  unfold f_X5_init_75 at hf
  obtain ⟨s16, es16, hf⟩ := ob hf
  refine Le.of (t := (s.1, s.2)) rfl ((le_nArr es16).tr ?_)
  exact Le.via (le_X5_init_80 hf) rfl
set_option maxRecDepth 20000 in
theorem zb_X5_init_75 {N : Nat} {r : AS} {E : EV} (hE : TG E none r)  {l0 : Nat} {l1 : Nat} {l2 : Nat} {l3 : Nat} {s : AS} (hf : f_X5_init_75 N l0 l1 l2 l3 s = some r) : Z E yX5_init cX5_init 4 none 2 s 75 [(0, .ref l0), (1, .ref l1), (2, .ref l2), (3, .ref l3)] [] := by
  unfold f_X5_init_75 at hf
  refine z_aload_n 0 dX5_init_75 rfl rfl ?_
  refine z_bipush 60 60 dX5_init_76 (by decide) ?_
  refine z_na1 hf (fun _ hf => tg_le hE (le_X5_init_80 hf)) mw_3_20 dX5_init_78 (fun s16 hf => ?_)
  exact zb_X5_init_80 hE hf
set_option maxRecDepth 20000 in
theorem le_X5_init_72 {N : Nat} {r : AS}  {l0 : Nat} {l1 : Nat} {l2 : Nat} {l3 : Nat} {t0 : Nat} {t1 : Nat} {s : AS} (hf : f_X5_init_72 N l0 l1 l2 l3 t0 t1 s = some r) : Le s r := by
  unfold f_X5_init_72 at hf
  obtain ⟨s15, es15, hf⟩ := ob hf
  refine Le.of (t := (s.1, s.2)) rfl ((le_pP es15).tr ?_)
  exact Le.via (le_X5_init_75 hf) rfl
set_option maxRecDepth 20000 in
theorem zb_X5_init_72 {N : Nat} {r : AS} {E : EV} (hE : TG E none r)  {l0 : Nat} {l1 : Nat} {l2 : Nat} {l3 : Nat} {t0 : Nat} {t1 : Nat} {s : AS} (hf : f_X5_init_72 N l0 l1 l2 l3 t0 t1 s = some r) : Z E yX5_init cX5_init 4 none 2 s 72 [(0, .ref l0), (1, .ref l1), (2, .ref l2), (3, .ref l3)] [.ref t1, .ref t0] := by
  unfold f_X5_init_72 at hf
  refine z_pP (ci := 5) (k := 10) (C := RX5) (T := TX5) (N := 13) rfl inlX5 (by decide) mw_6_1 (fun _ _ _ _ h9 => h9) tyX5 tyX5_ok nmX5 rfl rfl rfl hf (Or.inl (by decide)) rfl rfl rfl dX5_init_72 (fun s15 es15 hf => ?_)
  exact zb_X5_init_75 hE hf
set_option maxRecDepth 20000 in
theorem le_X5_init_66 {N : Nat} {r : AS}  {l0 : Nat} {l1 : Nat} {l2 : Nat} {l3 : Nat} {s : AS} (hf : f_X5_init_66 N l0 l1 l2 l3 s = some r) : Le s r := by
  unfold f_X5_init_66 at hf
  obtain ⟨s14, es14, hf⟩ := ob hf
  refine Le.of (t := (s.1, s.2)) rfl ((le_nArr es14).tr ?_)
  exact Le.via (le_X5_init_72 hf) rfl
set_option maxRecDepth 20000 in
theorem zb_X5_init_66 {N : Nat} {r : AS} {E : EV} (hE : TG E none r)  {l0 : Nat} {l1 : Nat} {l2 : Nat} {l3 : Nat} {s : AS} (hf : f_X5_init_66 N l0 l1 l2 l3 s = some r) : Z E yX5_init cX5_init 4 none 2 s 66 [(0, .ref l0), (1, .ref l1), (2, .ref l2), (3, .ref l3)] [] := by
  unfold f_X5_init_66 at hf
  refine z_aload_n 0 dX5_init_66 rfl rfl ?_
  refine z_sipush 150 150 dX5_init_67 (by decide) ?_
  refine z_na0 hf (fun _ hf => tg_le hE (le_X5_init_72 hf)) mw_2_13 dX5_init_70 (fun s14 hf => ?_)
  exact zb_X5_init_72 hE hf
set_option maxRecDepth 20000 in
theorem le_X5_init_63 {N : Nat} {r : AS}  {l0 : Nat} {l1 : Nat} {l2 : Nat} {l3 : Nat} {t0 : Nat} {t1 : Nat} {s : AS} (hf : f_X5_init_63 N l0 l1 l2 l3 t0 t1 s = some r) : Le s r := by
  unfold f_X5_init_63 at hf
  obtain ⟨s13, es13, hf⟩ := ob hf
  refine Le.of (t := (s.1, s.2)) rfl ((le_pP es13).tr ?_)
  exact Le.via (le_X5_init_66 hf) rfl
set_option maxRecDepth 20000 in
theorem zb_X5_init_63 {N : Nat} {r : AS} {E : EV} (hE : TG E none r)  {l0 : Nat} {l1 : Nat} {l2 : Nat} {l3 : Nat} {t0 : Nat} {t1 : Nat} {s : AS} (hf : f_X5_init_63 N l0 l1 l2 l3 t0 t1 s = some r) : Z E yX5_init cX5_init 4 none 2 s 63 [(0, .ref l0), (1, .ref l1), (2, .ref l2), (3, .ref l3)] [.ref t1, .ref t0] := by
  unfold f_X5_init_63 at hf
  refine z_pP (ci := 5) (k := 9) (C := RX5) (T := TX5) (N := 13) rfl inlX5 (by decide) mw_6_0 (fun _ _ _ _ h9 => h9) tyX5 tyX5_ok nmX5 rfl rfl rfl hf (Or.inl (by decide)) rfl rfl rfl dX5_init_63 (fun s13 es13 hf => ?_)
  exact zb_X5_init_66 hE hf
set_option maxRecDepth 20000 in
theorem le_X5_init_52 {N : Nat} {r : AS}  {l0 : Nat} {l1 : Nat} {l2 : Nat} {l3 : Nat} {s : AS} (hf : f_X5_init_52 N l0 l1 l2 l3 s = some r) : Le s r := by
  unfold f_X5_init_52 at hf
  obtain ⟨d11, -, hf⟩ := ob hf
  obtain ⟨s12, es12, hf⟩ := ob hf
  refine Le.of (t := (s.1, d11)) rfl ((le_nArr es12).tr ?_)
  exact Le.via (le_X5_init_63 hf) rfl
set_option maxRecDepth 20000 in
theorem zb_X5_init_52 {N : Nat} {r : AS} {E : EV} (hE : TG E none r)  {l0 : Nat} {l1 : Nat} {l2 : Nat} {l3 : Nat} {s : AS} (hf : f_X5_init_52 N l0 l1 l2 l3 s = some r) : Z E yX5_init cX5_init 4 none 2 s 52 [(0, .ref l0), (1, .ref l1), (2, .ref l2), (3, .ref l3)] [] := by
  unfold f_X5_init_52 at hf
  refine z_aload_n 0 dX5_init_52 rfl rfl ?_
  refine z_iconst 0 0 dX5_init_53 (by decide) ?_
  refine z_pI (ci := 5) (k := 8) (C := RX5) (T := TX5) (N := 13) rfl inlX5 (by decide) mw_5_23 (fun _ _ _ _ h9 => h9) tyX5 tyX5_ok nmX5 rfl hf (Or.inl (by decide)) rfl rfl rfl dX5_init_54  (fun d11 hf => ?_)
  refine z_aload_n 0 dX5_init_57 rfl rfl ?_
  refine z_sipush 150 150 dX5_init_58 (by decide) ?_
  refine z_na0 hf (fun _ hf => tg_le hE (le_X5_init_63 hf)) mw_2_13 dX5_init_61 (fun s12 hf => ?_)
  exact zb_X5_init_63 hE hf
set_option maxRecDepth 20000 in
theorem le_X5_init_49 {N : Nat} {r : AS}  {l0 : Nat} {l1 : Nat} {l2 : Nat} {l3 : Nat} {t0 : Nat} {t1 : Nat} {s : AS} (hf : f_X5_init_49 N l0 l1 l2 l3 t0 t1 s = some r) : Le s r := by
  unfold f_X5_init_49 at hf
  obtain ⟨s10, es10, hf⟩ := ob hf
  refine Le.of (t := (s.1, s.2)) rfl ((le_pP es10).tr ?_)
  exact Le.via (le_X5_init_52 hf) rfl
set_option maxRecDepth 20000 in
theorem zb_X5_init_49 {N : Nat} {r : AS} {E : EV} (hE : TG E none r)  {l0 : Nat} {l1 : Nat} {l2 : Nat} {l3 : Nat} {t0 : Nat} {t1 : Nat} {s : AS} (hf : f_X5_init_49 N l0 l1 l2 l3 t0 t1 s = some r) : Z E yX5_init cX5_init 4 none 2 s 49 [(0, .ref l0), (1, .ref l1), (2, .ref l2), (3, .ref l3)] [.ref t1, .ref t0] := by
  unfold f_X5_init_49 at hf
  refine z_pP (ci := 5) (k := 7) (C := RX5) (T := TX5) (N := 13) rfl inlX5 (by decide) mw_5_22 (fun _ _ _ _ h9 => h9) tyX5 tyX5_ok nmX5 rfl rfl rfl hf (Or.inl (by decide)) rfl rfl rfl dX5_init_49 (fun s10 es10 hf => ?_)
  exact zb_X5_init_52 hE hf
set_option maxRecDepth 20000 in
theorem le_X5_init_43 {N : Nat} {r : AS}  {l0 : Nat} {l1 : Nat} {l2 : Nat} {l3 : Nat} {s : AS} (hf : f_X5_init_43 N l0 l1 l2 l3 s = some r) : Le s r := by
  unfold f_X5_init_43 at hf
  obtain ⟨s9, es9, hf⟩ := ob hf
  refine Le.of (t := (s.1, s.2)) rfl ((le_nArr es9).tr ?_)
  exact Le.via (le_X5_init_49 hf) rfl
set_option maxRecDepth 20000 in
theorem zb_X5_init_43 {N : Nat} {r : AS} {E : EV} (hE : TG E none r)  {l0 : Nat} {l1 : Nat} {l2 : Nat} {l3 : Nat} {s : AS} (hf : f_X5_init_43 N l0 l1 l2 l3 s = some r) : Z E yX5_init cX5_init 4 none 2 s 43 [(0, .ref l0), (1, .ref l1), (2, .ref l2), (3, .ref l3)] [] := by
  unfold f_X5_init_43 at hf
  refine z_aload_n 0 dX5_init_43 rfl rfl ?_
  refine z_sipush 150 150 dX5_init_44 (by decide) ?_
  refine z_na0 hf (fun _ hf => tg_le hE (le_X5_init_49 hf)) mw_2_13 dX5_init_47 (fun s9 hf => ?_)
  exact zb_X5_init_49 hE hf
set_option maxRecDepth 20000 in
theorem le_X5_init_40 {N : Nat} {r : AS}  {l0 : Nat} {l1 : Nat} {l2 : Nat} {l3 : Nat} {t0 : Nat} {t1 : Nat} {s : AS} (hf : f_X5_init_40 N l0 l1 l2 l3 t0 t1 s = some r) : Le s r := by
  unfold f_X5_init_40 at hf
  obtain ⟨s8, es8, hf⟩ := ob hf
  refine Le.of (t := (s.1, s.2)) rfl ((le_pP es8).tr ?_)
  exact Le.via (le_X5_init_43 hf) rfl
set_option maxRecDepth 20000 in
theorem zb_X5_init_40 {N : Nat} {r : AS} {E : EV} (hE : TG E none r)  {l0 : Nat} {l1 : Nat} {l2 : Nat} {l3 : Nat} {t0 : Nat} {t1 : Nat} {s : AS} (hf : f_X5_init_40 N l0 l1 l2 l3 t0 t1 s = some r) : Z E yX5_init cX5_init 4 none 2 s 40 [(0, .ref l0), (1, .ref l1), (2, .ref l2), (3, .ref l3)] [.ref t1, .ref t0] := by
  unfold f_X5_init_40 at hf
  refine z_pP (ci := 5) (k := 6) (C := RX5) (T := TX5) (N := 13) rfl inlX5 (by decide) mw_5_21 (fun _ _ _ _ h9 => h9) tyX5 tyX5_ok nmX5 rfl rfl rfl hf (Or.inl (by decide)) rfl rfl rfl dX5_init_40 (fun s8 es8 hf => ?_)
  exact zb_X5_init_43 hE hf
set_option maxRecDepth 20000 in
theorem le_X5_init_34 {N : Nat} {r : AS}  {l0 : Nat} {l1 : Nat} {l2 : Nat} {l3 : Nat} {s : AS} (hf : f_X5_init_34 N l0 l1 l2 l3 s = some r) : Le s r := by
  unfold f_X5_init_34 at hf
  obtain ⟨s7, es7, hf⟩ := ob hf
  refine Le.of (t := (s.1, s.2)) rfl ((le_nArr es7).tr ?_)
  exact Le.via (le_X5_init_40 hf) rfl
set_option maxRecDepth 20000 in
theorem zb_X5_init_34 {N : Nat} {r : AS} {E : EV} (hE : TG E none r)  {l0 : Nat} {l1 : Nat} {l2 : Nat} {l3 : Nat} {s : AS} (hf : f_X5_init_34 N l0 l1 l2 l3 s = some r) : Z E yX5_init cX5_init 4 none 2 s 34 [(0, .ref l0), (1, .ref l1), (2, .ref l2), (3, .ref l3)] [] := by
  unfold f_X5_init_34 at hf
  refine z_aload_n 0 dX5_init_34 rfl rfl ?_
  refine z_sipush 150 150 dX5_init_35 (by decide) ?_
  refine z_na0 hf (fun _ hf => tg_le hE (le_X5_init_40 hf)) mw_2_13 dX5_init_38 (fun s7 hf => ?_)
  exact zb_X5_init_40 hE hf
set_option maxRecDepth 20000 in
theorem le_X5_init_31 {N : Nat} {r : AS}  {l0 : Nat} {l1 : Nat} {l2 : Nat} {l3 : Nat} {t0 : Nat} {t1 : Nat} {s : AS} (hf : f_X5_init_31 N l0 l1 l2 l3 t0 t1 s = some r) : Le s r := by
  unfold f_X5_init_31 at hf
  obtain ⟨s6, es6, hf⟩ := ob hf
  refine Le.of (t := (s.1, s.2)) rfl ((le_pP es6).tr ?_)
  exact Le.via (le_X5_init_34 hf) rfl
set_option maxRecDepth 20000 in
theorem zb_X5_init_31 {N : Nat} {r : AS} {E : EV} (hE : TG E none r)  {l0 : Nat} {l1 : Nat} {l2 : Nat} {l3 : Nat} {t0 : Nat} {t1 : Nat} {s : AS} (hf : f_X5_init_31 N l0 l1 l2 l3 t0 t1 s = some r) : Z E yX5_init cX5_init 4 none 2 s 31 [(0, .ref l0), (1, .ref l1), (2, .ref l2), (3, .ref l3)] [.ref t1, .ref t0] := by
  unfold f_X5_init_31 at hf
  refine z_pP (ci := 5) (k := 5) (C := RX5) (T := TX5) (N := 13) rfl inlX5 (by decide) mw_5_20 (fun _ _ _ _ h9 => h9) tyX5 tyX5_ok nmX5 rfl rfl rfl hf (Or.inl (by decide)) rfl rfl rfl dX5_init_31 (fun s6 es6 hf => ?_)
  exact zb_X5_init_34 hE hf
set_option maxRecDepth 20000 in
theorem le_X5_init_26 {N : Nat} {r : AS}  {l0 : Nat} {l1 : Nat} {l2 : Nat} {l3 : Nat} {s : AS} (hf : f_X5_init_26 N l0 l1 l2 l3 s = some r) : Le s r := by
  unfold f_X5_init_26 at hf
  obtain ⟨s5, es5, hf⟩ := ob hf
  refine Le.of (t := (s.1, s.2)) rfl ((le_nArr es5).tr ?_)
  exact Le.via (le_X5_init_31 hf) rfl
set_option maxRecDepth 20000 in
theorem zb_X5_init_26 {N : Nat} {r : AS} {E : EV} (hE : TG E none r)  {l0 : Nat} {l1 : Nat} {l2 : Nat} {l3 : Nat} {s : AS} (hf : f_X5_init_26 N l0 l1 l2 l3 s = some r) : Z E yX5_init cX5_init 4 none 2 s 26 [(0, .ref l0), (1, .ref l1), (2, .ref l2), (3, .ref l3)] [] := by
  unfold f_X5_init_26 at hf
  refine z_aload_n 0 dX5_init_26 rfl rfl ?_
  refine z_bipush 60 60 dX5_init_27 (by decide) ?_
  refine z_na0 hf (fun _ hf => tg_le hE (le_X5_init_31 hf)) mw_2_13 dX5_init_29 (fun s5 hf => ?_)
  exact zb_X5_init_31 hE hf
set_option maxRecDepth 20000 in
theorem le_X5_init_23 {N : Nat} {r : AS}  {l0 : Nat} {l1 : Nat} {l2 : Nat} {l3 : Nat} {t0 : Nat} {t1 : Nat} {s : AS} (hf : f_X5_init_23 N l0 l1 l2 l3 t0 t1 s = some r) : Le s r := by
  unfold f_X5_init_23 at hf
  obtain ⟨s4, es4, hf⟩ := ob hf
  refine Le.of (t := (s.1, s.2)) rfl ((le_pP es4).tr ?_)
  exact Le.via (le_X5_init_26 hf) rfl
set_option maxRecDepth 20000 in
theorem zb_X5_init_23 {N : Nat} {r : AS} {E : EV} (hE : TG E none r)  {l0 : Nat} {l1 : Nat} {l2 : Nat} {l3 : Nat} {t0 : Nat} {t1 : Nat} {s : AS} (hf : f_X5_init_23 N l0 l1 l2 l3 t0 t1 s = some r) : Z E yX5_init cX5_init 4 none 2 s 23 [(0, .ref l0), (1, .ref l1), (2, .ref l2), (3, .ref l3)] [.ref t1, .ref t0] := by
  unfold f_X5_init_23 at hf
  refine z_pP (ci := 5) (k := 4) (C := RX5) (T := TX5) (N := 13) rfl inlX5 (by decide) mw_5_19 (fun _ _ _ _ h9 => h9) tyX5 tyX5_ok nmX5 rfl rfl rfl hf (Or.inl (by decide)) rfl rfl rfl dX5_init_23 (fun s4 es4 hf => ?_)
  exact zb_X5_init_26 hE hf
set_option maxRecDepth 20000 in
theorem le_X5_init_18 {N : Nat} {r : AS}  {l0 : Nat} {l1 : Nat} {l2 : Nat} {l3 : Nat} {s : AS} (hf : f_X5_init_18 N l0 l1 l2 l3 s = some r) : Le s r := by
  unfold f_X5_init_18 at hf
  obtain ⟨s3, es3, hf⟩ := ob hf
  refine Le.of (t := (s.1, s.2)) rfl ((le_nArr es3).tr ?_)
  exact Le.via (le_X5_init_23 hf) rfl
set_option maxRecDepth 20000 in
theorem zb_X5_init_18 {N : Nat} {r : AS} {E : EV} (hE : TG E none r)  {l0 : Nat} {l1 : Nat} {l2 : Nat} {l3 : Nat} {s : AS} (hf : f_X5_init_18 N l0 l1 l2 l3 s = some r) : Z E yX5_init cX5_init 4 none 2 s 18 [(0, .ref l0), (1, .ref l1), (2, .ref l2), (3, .ref l3)] [] := by
  unfold f_X5_init_18 at hf
  refine z_aload_n 0 dX5_init_18 rfl rfl ?_
  refine z_bipush 7 7 dX5_init_19 (by decide) ?_
  refine z_na0 hf (fun _ hf => tg_le hE (le_X5_init_23 hf)) mw_2_13 dX5_init_21 (fun s3 hf => ?_)
  exact zb_X5_init_23 hE hf
set_option maxRecDepth 20000 in
theorem le_X5_init_15 {N : Nat} {r : AS}  {l0 : Nat} {l1 : Nat} {l2 : Nat} {l3 : Nat} {t0 : Nat} {t1 : Nat} {s : AS} (hf : f_X5_init_15 N l0 l1 l2 l3 t0 t1 s = some r) : Le s r := by
  unfold f_X5_init_15 at hf
  obtain ⟨s2, es2, hf⟩ := ob hf
  refine Le.of (t := (s.1, s.2)) rfl ((le_pP es2).tr ?_)
  exact Le.via (le_X5_init_18 hf) rfl
set_option maxRecDepth 20000 in
theorem zb_X5_init_15 {N : Nat} {r : AS} {E : EV} (hE : TG E none r)  {l0 : Nat} {l1 : Nat} {l2 : Nat} {l3 : Nat} {t0 : Nat} {t1 : Nat} {s : AS} (hf : f_X5_init_15 N l0 l1 l2 l3 t0 t1 s = some r) : Z E yX5_init cX5_init 4 none 2 s 15 [(0, .ref l0), (1, .ref l1), (2, .ref l2), (3, .ref l3)] [.ref t1, .ref t0] := by
  unfold f_X5_init_15 at hf
  refine z_pP (ci := 5) (k := 3) (C := RX5) (T := TX5) (N := 13) rfl inlX5 (by decide) mw_5_18 (fun _ _ _ _ h9 => h9) tyX5 tyX5_ok nmX5 rfl rfl rfl hf (Or.inl (by decide)) rfl rfl rfl dX5_init_15 (fun s2 es2 hf => ?_)
  exact zb_X5_init_18 hE hf
set_option maxRecDepth 20000 in
theorem le_X5_init_8 {N : Nat} {r : AS}  {l0 : Nat} {l1 : Nat} {l2 : Nat} {l3 : Nat} {t0 : Nat} {t1 : Nat} {s : AS} (hf : f_X5_init_8 N l0 l1 l2 l3 t0 t1 s = some r) : Le s r := by
  unfold f_X5_init_8 at hf
  obtain ⟨v1, ev1, hf⟩ := ob hf
  refine Le.of (t := (s.1, s.2)) rfl ((lm_X8_init ev1).tr ?_)
  exact Le.via (le_X5_init_15 hf) rfl
set_option maxRecDepth 20000 in
theorem zb_X5_init_8 {N : Nat} {r : AS} {E : EV} (hE : TG E none r)  {l0 : Nat} {l1 : Nat} {l2 : Nat} {l3 : Nat} {t0 : Nat} {t1 : Nat} {s : AS} (hf : f_X5_init_8 N l0 l1 l2 l3 t0 t1 s = some r) : Z E yX5_init cX5_init 4 none 2 s 8 [(0, .ref l0), (1, .ref l1), (2, .ref l2), (3, .ref l3)] [.ref t1, .ref t0] := by
  unfold f_X5_init_8 at hf
  refine z_dup dX5_init_8 rfl ?_
  refine z_iconst 4 4 dX5_init_9 (by decide) ?_
  refine z_bipush 16 16 dX5_init_10 (by decide) ?_
  obtain ⟨v1, ev1, hf⟩ := ob hf
  refine z_cI (As := [.int (4 : Int32), .int (16 : Int32)]) (rest := [.ref t1, .ref t0]) (zm_X8_init ev1).2 (Or.inr (tg_le hE (le_X5_init_15 hf))) mw_6_7 mw_3_23 mw_3_13 mw_4_0 rfl yk_X8_init (by decide) (by decide) rfl (Nat.le_of_ble_eq_true rfl) rfl dX5_init_12 ?_
  exact zb_X5_init_15 hE hf
set_option maxRecDepth 20000 in
theorem lm_X5_init {N : Nat} {s : AS} {l0 : Nat} {l1 : Nat} {l2 : Nat} {l3 : Nat} {r : AS} (hf : f_X5_init N l0 l1 l2 l3 s = some r) : Le s r := by
  unfold f_X5_init at hf
  split at hf
  · skip
    refine Le.of (t := (s.1, s.2)) rfl (le_nObj.tr (u := _) (t := nObj (s.1, s.2) 8) ?_)
    exact Le.via (le_X5_init_8 hf) rfl
  · cases hf
set_option maxRecDepth 20000 in
theorem zm_X5_init {N : Nat} {s : AS} {l0 : Nat} {l1 : Nat} {l2 : Nat} {l3 : Nat} {r : AS} (hf : f_X5_init N l0 l1 l2 l3 s = some r) : isO s.1 l0 5 ∧ ∀ (l : Launch) (G : GG), Mt l G yX5_init cX5_init 4 none 2 [.ref l0, .ref l1, .ref l2, .ref l3] s none r := by
  have hf0 := hf
  unfold f_X5_init at hf
  split at hf
  · rename_i hO
    refine ⟨hO, fun l G => mt_of (Or.inl (by decide)) (Nat.le_of_ble_eq_true rfl) (lm_X5_init hf0) (fun E hE => ?_)⟩
    show Z E yX5_init cX5_init 4 none 2 s 0 [(0, .ref l0), (1, .ref l1), (2, .ref l2), (3, .ref l3)] []
    refine z_aload_n 0 dX5_init_0 rfl rfl ?_
    refine z_objInit mw_5_16 mw_1_10 mw_1_11 (by decide) (Nat.le_of_ble_eq_true rfl) dX5_init_1 ?_
    refine z_aload_n 0 dX5_init_4 rfl rfl ?_
    refine z_newo (ci := 8) (C := RX8) (T := TX8) (N := 2) rfl inlX8 tyX8 tyX8_ok mw_5_17 mw_3_12 mw_3_13 rfl df_8 (tg_le hE (le_X5_init_8 hf)) dX5_init_5 ?_
    exact zb_X5_init_8 hE hf
  · cases hf
set_option maxRecDepth 20000 in
theorem le_X11_init_191 {N : Nat} {r : AS}   {s : AS} (hf : f_X11_init_191 N  s = some r) : Le s r := by
  unfold f_X11_init_191 at hf
  cases hf
  exact Le.rf
set_option maxRecDepth 20000 in
theorem zb_X11_init_191 {N : Nat} {r : AS} {E : EV} (hE : TG E none r)   {s : AS} (hf : f_X11_init_191 N  s = some r) : Z E yX11_init cX11_init 3 none 3 s 191 [] [] := by
  unfold f_X11_init_191 at hf
  cases hf
  exact z_return hE rfl dX11_init_191
set_option maxRecDepth 20000 in
theorem lg_X11_init_172 {N : Nat} {r : AS} {k172 : Nat → Nat → Int32 → AS → Option AS}  (hk172 : ∀ (l0 : Nat) (l1 : Nat) (l2 : Int32) (s : AS), k172 l0 l1 l2 s = some r → Le s r) {l0 : Nat} {l1 : Nat} {l2 : Int32} {s : AS} (hf : g_X11_init_172 N k172 l0 l1 l2 s = some r) : Le s r := by
  unfold g_X11_init_172 at hf
  split at hf
  · exact Le.via (le_X11_init_191 hf) rfl
  · obtain ⟨v35, -, hf⟩ := ob hf
    obtain ⟨d36, -, hf⟩ := ob hf
    exact Le.via (hk172 _ _ _ _ hf) rfl
set_option maxRecDepth 20000 in
theorem le_X11_init_172 {N : Nat} {r : AS}  : ∀ (n : Nat) (l0 : Nat) (l1 : Nat) (l2 : Int32) (s : AS), f_X11_init_172 N n l0 l1 l2 s = some r → Le s r := by
  intro n
  induction n with
  | zero => intro l0 l1 l2 s hf; cases hf
  | succ n ih => intro l0 l1 l2 s hf; exact lg_X11_init_172 ih hf
set_option maxRecDepth 20000 in
theorem zg_X11_init_172 {N : Nat} {r : AS} {k172 : Nat → Nat → Int32 → AS → Option AS} {E : EV} (hE : TG E none r)  (hk172 : ∀ (l0 : Nat) (l1 : Nat) (l2 : Int32) (s : AS), k172 l0 l1 l2 s = some r → Z E yX11_init cX11_init 3 none 3 s 172 [(0, .ref l0), (1, .ref l1), (2, .int l2)] []) {l0 : Nat} {l1 : Nat} {l2 : Int32} {s : AS} (hf : g_X11_init_172 N k172 l0 l1 l2 s = some r) : Z E yX11_init cX11_init 3 none 3 s 172 [(0, .ref l0), (1, .ref l1), (2, .int l2)] [] := by
  unfold g_X11_init_172 at hf
  refine z_iload_n 2 dX11_init_172 rfl rfl ?_
  refine z_bipush 12 12 dX11_init_173 (by decide) ?_
  refine z_icmp_ge 191 hf dX11_init_175 (by decide) (fun hf => ?_) (fun hf => ?_)
  · refine z_lv [] [] rfl ?_
    exact zb_X11_init_191 hE hf
  · refine z_aload_n 0 dX11_init_178 rfl rfl ?_
    refine z_gP (ci := 11) (k := 6) (C := RX11) (T := TX11) (N := 14) rfl inlX11 (by decide) mw_2_10 (fun _ _ _ _ h9 => h9) hf (by decide) rfl dX11_init_179  (fun v35 hf => ?_)
    refine z_iload_n 2 dX11_init_182 rfl rfl ?_
    refine z_aload_n 1 dX11_init_183 rfl rfl ?_
    refine z_sP hf dX11_init_184  (fun d36 hf => ?_)
    refine z_iinc [(2, .int (l2 + 1)), (0, .ref l0), (1, .ref l1)] 2 (l2 + 1) dX11_init_185 rfl rfl (by decide) rfl ?_
    refine z_goto 172 dX11_init_188 (by decide) ?_
    refine z_lv [(0, .ref l0), (1, .ref l1), (2, .int (l2 + 1))] [1, 2, 0] rfl ?_
    exact hk172 _ _ _ _ hf
set_option maxRecDepth 20000 in
theorem zb_X11_init_172 {N : Nat} {r : AS} {E : EV} (hE : TG E none r)  : ∀ (n : Nat) (l0 : Nat) (l1 : Nat) (l2 : Int32) (s : AS), f_X11_init_172 N n l0 l1 l2 s = some r → Z E yX11_init cX11_init 3 none 3 s 172 [(0, .ref l0), (1, .ref l1), (2, .int l2)] [] := by
  intro n
  induction n with
  | zero => intro l0 l1 l2 s hf; cases hf
  | succ n ih => intro l0 l1 l2 s hf; exact zg_X11_init_172 hE ih hf
set_option maxRecDepth 20000 in
theorem le_X11_init_169 {N : Nat} {r : AS}  {l0 : Nat} {t0 : Nat} {s : AS} (hf : f_X11_init_169 N l0 t0 s = some r) : Le s r := by
  unfold f_X11_init_169 at hf
  exact Le.via (le_X11_init_172 N _ _ _ _ hf) rfl
set_option maxRecDepth 20000 in
theorem zb_X11_init_169 {N : Nat} {r : AS} {E : EV} (hE : TG E none r)  {l0 : Nat} {t0 : Nat} {s : AS} (hf : f_X11_init_169 N l0 t0 s = some r) : Z E yX11_init cX11_init 3 none 3 s 169 [(0, .ref l0)] [.ref t0] := by
  unfold f_X11_init_169 at hf
  refine z_astore_n [(1, .ref t0), (0, .ref l0)] dX11_init_169 rfl (by decide) rfl ?_
  refine z_iconst 0 0 dX11_init_170 (by decide) ?_
  refine z_istore_n [(2, .int (0 : Int32)), (1, .ref t0), (0, .ref l0)] dX11_init_171 rfl (by decide) rfl ?_
  refine z_lv [(0, .ref l0), (1, .ref t0), (2, .int (0 : Int32))] [2, 1, 0] rfl ?_
  exact zb_X11_init_172 hE N _ _ _ _ hf
set_option maxRecDepth 20000 in
theorem le_X11_init_156 {N : Nat} {r : AS}  {l0 : Nat} {t0 : Nat} {s : AS} (hf : f_X11_init_156 N l0 t0 s = some r) : Le s r := by
  unfold f_X11_init_156 at hf
  obtain ⟨v33, -, hf⟩ := ob hf
  obtain ⟨v34, ev34, hf⟩ := ob hf
  refine Le.of (t := (s.1, s.2)) rfl ((lm_X6_init ev34).tr ?_)
  exact Le.via (le_X11_init_169 hf) rfl
set_option maxRecDepth 20000 in
theorem zb_X11_init_156 {N : Nat} {r : AS} {E : EV} (hE : TG E none r)  {l0 : Nat} {t0 : Nat} {s : AS} (hf : f_X11_init_156 N l0 t0 s = some r) : Z E yX11_init cX11_init 3 none 3 s 156 [(0, .ref l0)] [.ref t0] := by
  unfold f_X11_init_156 at hf
  refine z_dup dX11_init_156 rfl ?_
  refine z_aload_n 0 dX11_init_157 rfl rfl ?_
  refine z_gP (ci := 11) (k := 0) (C := RX11) (T := TX11) (N := 14) rfl inlX11 (by decide) mw_1_15 (fun _ _ _ _ h9 => h9) hf (by decide) rfl dX11_init_158  (fun v33 hf => ?_)
  refine z_bipush 50 50 dX11_init_161 (by decide) ?_
  refine z_sipush 200 200 dX11_init_163 (by decide) ?_
  obtain ⟨v34, ev34, hf⟩ := ob hf
  refine z_cI (As := [.ref v33, .int (50 : Int32), .int (200 : Int32)]) (rest := [.ref t0]) (zm_X6_init ev34).2 (Or.inr (tg_le hE (le_X11_init_169 hf))) mw_6_8 mw_6_9 mw_2_22 mw_6_10 rfl yk_X6_init (by decide) (by decide) rfl (Nat.le_of_ble_eq_true rfl) rfl dX11_init_166 ?_
  exact zb_X11_init_169 hE hf
set_option maxRecDepth 20000 in
theorem le_X11_init_140 {N : Nat} {r : AS}  {l0 : Nat} {t0 : Nat} {t1 : Nat} {s : AS} (hf : f_X11_init_140 N l0 t0 t1 s = some r) : Le s r := by
  unfold f_X11_init_140 at hf
  obtain ⟨d30, -, hf⟩ := ob hf
  obtain ⟨d31, -, hf⟩ := ob hf
  obtain ⟨d32, -, hf⟩ := ob hf
  refine Le.of (t := (s.1, d32)) rfl (le_nObj.tr (u := _) (t := nObj (s.1, d32) 6) ?_)
  exact Le.via (le_X11_init_156 hf) rfl
set_option maxRecDepth 20000 in
theorem zb_X11_init_140 {N : Nat} {r : AS} {E : EV} (hE : TG E none r)  {l0 : Nat} {t0 : Nat} {t1 : Nat} {s : AS} (hf : f_X11_init_140 N l0 t0 t1 s = some r) : Z E yX11_init cX11_init 3 none 3 s 140 [(0, .ref l0)] [.ref t1, .ref t0] := by
  unfold f_X11_init_140 at hf
  refine z_pQ (ci := 11) (k := 11) (C := RX11) (T := TX11) (N := 14) rfl inlX11 (by decide) mw_2_18 (fun _ _ _ _ h9 => h9) tyX11 tyX11_ok nmX11 rfl hf (by decide) rfl rfl rfl dX11_init_140  (fun d30 hf => ?_)
  refine z_aload_n 0 dX11_init_143 rfl rfl ?_
  refine z_iconst 0 0 dX11_init_144 (by decide) ?_
  refine z_pI (ci := 11) (k := 12) (C := RX11) (T := TX11) (N := 14) rfl inlX11 (by decide) mw_2_19 (fun _ _ _ _ h9 => h9) tyX11 tyX11_ok nmX11 rfl hf (Or.inl (by decide)) rfl rfl rfl dX11_init_145  (fun d31 hf => ?_)
  refine z_aload_n 0 dX11_init_148 rfl rfl ?_
  refine z_iconst 0 0 dX11_init_149 (by decide) ?_
  refine z_pI (ci := 11) (k := 13) (C := RX11) (T := TX11) (N := 14) rfl inlX11 (by decide) mw_2_20 (fun _ _ _ _ h9 => h9) tyX11 tyX11_ok nmX11 rfl hf (Or.inl (by decide)) rfl rfl rfl dX11_init_150  (fun d32 hf => ?_)
  refine z_newo (ci := 6) (C := RX6) (T := TX6) (N := 3) rfl inlX6 tyX6 tyX6_ok mw_2_9 mw_2_21 mw_2_22 rfl df_6 (tg_le hE (le_X11_init_156 hf)) dX11_init_153 ?_
  exact zb_X11_init_156 hE hf
set_option maxRecDepth 20000 in
theorem le_X11_init_135 {N : Nat} {r : AS}  {l0 : Nat} {s : AS} (hf : f_X11_init_135 N l0 s = some r) : Le s r := by
  unfold f_X11_init_135 at hf
  obtain ⟨s29, es29, hf⟩ := ob hf
  refine Le.of (t := (s.1, s.2)) rfl ((le_nArr es29).tr ?_)
  exact Le.via (le_X11_init_140 hf) rfl
set_option maxRecDepth 20000 in
theorem zb_X11_init_135 {N : Nat} {r : AS} {E : EV} (hE : TG E none r)  {l0 : Nat} {s : AS} (hf : f_X11_init_135 N l0 s = some r) : Z E yX11_init cX11_init 3 none 3 s 135 [(0, .ref l0)] [] := by
  unfold f_X11_init_135 at hf
  refine z_aload_n 0 dX11_init_135 rfl rfl ?_
  refine z_bipush 16 16 dX11_init_136 (by decide) ?_
  refine z_na3 hf (fun _ hf => tg_le hE (le_X11_init_140 hf)) mw_2_17 dX11_init_138 (fun s29 hf => ?_)
  exact zb_X11_init_140 hE hf
set_option maxRecDepth 20000 in
theorem le_X11_init_132 {N : Nat} {r : AS}  {l0 : Nat} {t0 : Nat} {t1 : Nat} {s : AS} (hf : f_X11_init_132 N l0 t0 t1 s = some r) : Le s r := by
  unfold f_X11_init_132 at hf
  obtain ⟨s28, es28, hf⟩ := ob hf
  refine Le.of (t := (s.1, s.2)) rfl ((le_pP es28).tr ?_)
  exact Le.via (le_X11_init_135 hf) rfl
set_option maxRecDepth 20000 in
theorem zb_X11_init_132 {N : Nat} {r : AS} {E : EV} (hE : TG E none r)  {l0 : Nat} {t0 : Nat} {t1 : Nat} {s : AS} (hf : f_X11_init_132 N l0 t0 t1 s = some r) : Z E yX11_init cX11_init 3 none 3 s 132 [(0, .ref l0)] [.ref t1, .ref t0] := by
  unfold f_X11_init_132 at hf
  refine z_pP (ci := 11) (k := 10) (C := RX11) (T := TX11) (N := 14) rfl inlX11 (by decide) mw_2_16 (fun _ _ _ _ h9 => h9) tyX11 tyX11_ok nmX11 rfl rfl rfl hf (Or.inl (by decide)) rfl rfl rfl dX11_init_132 (fun s28 es28 hf => ?_)
  exact zb_X11_init_135 hE hf
set_option maxRecDepth 20000 in
theorem le_X11_init_127 {N : Nat} {r : AS}  {l0 : Nat} {s : AS} (hf : f_X11_init_127 N l0 s = some r) : Le s r := by
  unfold f_X11_init_127 at hf
  obtain ⟨s27, es27, hf⟩ := ob hf
  refine Le.of (t := (s.1, s.2)) rfl ((le_nArr es27).tr ?_)
  exact Le.via (le_X11_init_132 hf) rfl
set_option maxRecDepth 20000 in
theorem zb_X11_init_127 {N : Nat} {r : AS} {E : EV} (hE : TG E none r)  {l0 : Nat} {s : AS} (hf : f_X11_init_127 N l0 s = some r) : Z E yX11_init cX11_init 3 none 3 s 127 [(0, .ref l0)] [] := by
  unfold f_X11_init_127 at hf
  refine z_aload_n 0 dX11_init_127 rfl rfl ?_
  refine z_bipush 12 12 dX11_init_128 (by decide) ?_
  refine z_na0 hf (fun _ hf => tg_le hE (le_X11_init_132 hf)) mw_2_13 dX11_init_130 (fun s27 hf => ?_)
  exact zb_X11_init_132 hE hf
set_option maxRecDepth 20000 in
theorem le_X11_init_124 {N : Nat} {r : AS}  {l0 : Nat} {t0 : Nat} {t1 : Nat} {s : AS} (hf : f_X11_init_124 N l0 t0 t1 s = some r) : Le s r := by
  unfold f_X11_init_124 at hf
  obtain ⟨s26, es26, hf⟩ := ob hf
  refine Le.of (t := (s.1, s.2)) rfl ((le_pP es26).tr ?_)
  exact Le.via (le_X11_init_127 hf) rfl
set_option maxRecDepth 20000 in
theorem zb_X11_init_124 {N : Nat} {r : AS} {E : EV} (hE : TG E none r)  {l0 : Nat} {t0 : Nat} {t1 : Nat} {s : AS} (hf : f_X11_init_124 N l0 t0 t1 s = some r) : Z E yX11_init cX11_init 3 none 3 s 124 [(0, .ref l0)] [.ref t1, .ref t0] := by
  unfold f_X11_init_124 at hf
  refine z_pP (ci := 11) (k := 9) (C := RX11) (T := TX11) (N := 14) rfl inlX11 (by decide) mw_2_15 (fun _ _ _ _ h9 => h9) tyX11 tyX11_ok nmX11 rfl rfl rfl hf (Or.inl (by decide)) rfl rfl rfl dX11_init_124 (fun s26 es26 hf => ?_)
  exact zb_X11_init_127 hE hf
set_option maxRecDepth 20000 in
theorem le_X11_init_119 {N : Nat} {r : AS}  {l0 : Nat} {s : AS} (hf : f_X11_init_119 N l0 s = some r) : Le s r := by
  unfold f_X11_init_119 at hf
  obtain ⟨s25, es25, hf⟩ := ob hf
  refine Le.of (t := (s.1, s.2)) rfl ((le_nArr es25).tr ?_)
  exact Le.via (le_X11_init_124 hf) rfl
set_option maxRecDepth 20000 in
theorem zb_X11_init_119 {N : Nat} {r : AS} {E : EV} (hE : TG E none r)  {l0 : Nat} {s : AS} (hf : f_X11_init_119 N l0 s = some r) : Z E yX11_init cX11_init 3 none 3 s 119 [(0, .ref l0)] [] := by
  unfold f_X11_init_119 at hf
  refine z_aload_n 0 dX11_init_119 rfl rfl ?_
  refine z_bipush 12 12 dX11_init_120 (by decide) ?_
  refine z_na0 hf (fun _ hf => tg_le hE (le_X11_init_124 hf)) mw_2_13 dX11_init_122 (fun s25 hf => ?_)
  exact zb_X11_init_124 hE hf
set_option maxRecDepth 20000 in
theorem le_X11_init_116 {N : Nat} {r : AS}  {l0 : Nat} {t0 : Nat} {t1 : Nat} {s : AS} (hf : f_X11_init_116 N l0 t0 t1 s = some r) : Le s r := by
  unfold f_X11_init_116 at hf
  obtain ⟨s24, es24, hf⟩ := ob hf
  refine Le.of (t := (s.1, s.2)) rfl ((le_pP es24).tr ?_)
  exact Le.via (le_X11_init_119 hf) rfl
set_option maxRecDepth 20000 in
theorem zb_X11_init_116 {N : Nat} {r : AS} {E : EV} (hE : TG E none r)  {l0 : Nat} {t0 : Nat} {t1 : Nat} {s : AS} (hf : f_X11_init_116 N l0 t0 t1 s = some r) : Z E yX11_init cX11_init 3 none 3 s 116 [(0, .ref l0)] [.ref t1, .ref t0] := by
  unfold f_X11_init_116 at hf
  refine z_pP (ci := 11) (k := 8) (C := RX11) (T := TX11) (N := 14) rfl inlX11 (by decide) mw_2_14 (fun _ _ _ _ h9 => h9) tyX11 tyX11_ok nmX11 rfl rfl rfl hf (Or.inl (by decide)) rfl rfl rfl dX11_init_116 (fun s24 es24 hf => ?_)
  exact zb_X11_init_119 hE hf
set_option maxRecDepth 20000 in
theorem le_X11_init_111 {N : Nat} {r : AS}  {l0 : Nat} {s : AS} (hf : f_X11_init_111 N l0 s = some r) : Le s r := by
  unfold f_X11_init_111 at hf
  obtain ⟨s23, es23, hf⟩ := ob hf
  refine Le.of (t := (s.1, s.2)) rfl ((le_nArr es23).tr ?_)
  exact Le.via (le_X11_init_116 hf) rfl
set_option maxRecDepth 20000 in
theorem zb_X11_init_111 {N : Nat} {r : AS} {E : EV} (hE : TG E none r)  {l0 : Nat} {s : AS} (hf : f_X11_init_111 N l0 s = some r) : Z E yX11_init cX11_init 3 none 3 s 111 [(0, .ref l0)] [] := by
  unfold f_X11_init_111 at hf
  refine z_aload_n 0 dX11_init_111 rfl rfl ?_
  refine z_bipush 12 12 dX11_init_112 (by decide) ?_
  refine z_na0 hf (fun _ hf => tg_le hE (le_X11_init_116 hf)) mw_2_13 dX11_init_114 (fun s23 hf => ?_)
  exact zb_X11_init_116 hE hf
set_option maxRecDepth 20000 in
theorem le_X11_init_108 {N : Nat} {r : AS}  {l0 : Nat} {t0 : Nat} {t1 : Nat} {s : AS} (hf : f_X11_init_108 N l0 t0 t1 s = some r) : Le s r := by
  unfold f_X11_init_108 at hf
  obtain ⟨s22, es22, hf⟩ := ob hf
  refine Le.of (t := (s.1, s.2)) rfl ((le_pP es22).tr ?_)
  exact Le.via (le_X11_init_111 hf) rfl
set_option maxRecDepth 20000 in
theorem zb_X11_init_108 {N : Nat} {r : AS} {E : EV} (hE : TG E none r)  {l0 : Nat} {t0 : Nat} {t1 : Nat} {s : AS} (hf : f_X11_init_108 N l0 t0 t1 s = some r) : Z E yX11_init cX11_init 3 none 3 s 108 [(0, .ref l0)] [.ref t1, .ref t0] := by
  unfold f_X11_init_108 at hf
  refine z_pP (ci := 11) (k := 7) (C := RX11) (T := TX11) (N := 14) rfl inlX11 (by decide) mw_2_12 (fun _ _ _ _ h9 => h9) tyX11 tyX11_ok nmX11 rfl rfl rfl hf (Or.inl (by decide)) rfl rfl rfl dX11_init_108 (fun s22 es22 hf => ?_)
  exact zb_X11_init_111 hE hf
set_option maxRecDepth 20000 in
theorem le_X11_init_103 {N : Nat} {r : AS}  {l0 : Nat} {s : AS} (hf : f_X11_init_103 N l0 s = some r) : Le s r := by
  unfold f_X11_init_103 at hf
  obtain ⟨s21, es21, hf⟩ := ob hf
  refine Le.of (t := (s.1, s.2)) rfl ((le_nArr es21).tr ?_)
  exact Le.via (le_X11_init_108 hf) rfl
set_option maxRecDepth 20000 in
theorem zb_X11_init_103 {N : Nat} {r : AS} {E : EV} (hE : TG E none r)  {l0 : Nat} {s : AS} (hf : f_X11_init_103 N l0 s = some r) : Z E yX11_init cX11_init 3 none 3 s 103 [(0, .ref l0)] [] := by
  unfold f_X11_init_103 at hf
  refine z_aload_n 0 dX11_init_103 rfl rfl ?_
  refine z_bipush 20 20 dX11_init_104 (by decide) ?_
  refine z_na2 hf (fun _ hf => tg_le hE (le_X11_init_108 hf)) mw_2_11 dX11_init_106 (fun s21 hf => ?_)
  exact zb_X11_init_108 hE hf
set_option maxRecDepth 20000 in
theorem le_X11_init_100 {N : Nat} {r : AS}  {l0 : Nat} {t0 : Nat} {t1 : Nat} {s : AS} (hf : f_X11_init_100 N l0 t0 t1 s = some r) : Le s r := by
  unfold f_X11_init_100 at hf
  obtain ⟨s20, es20, hf⟩ := ob hf
  refine Le.of (t := (s.1, s.2)) rfl ((le_pP es20).tr ?_)
  exact Le.via (le_X11_init_103 hf) rfl
set_option maxRecDepth 20000 in
theorem zb_X11_init_100 {N : Nat} {r : AS} {E : EV} (hE : TG E none r)  {l0 : Nat} {t0 : Nat} {t1 : Nat} {s : AS} (hf : f_X11_init_100 N l0 t0 t1 s = some r) : Z E yX11_init cX11_init 3 none 3 s 100 [(0, .ref l0)] [.ref t1, .ref t0] := by
  unfold f_X11_init_100 at hf
  refine z_pP (ci := 11) (k := 6) (C := RX11) (T := TX11) (N := 14) rfl inlX11 (by decide) mw_2_10 (fun _ _ _ _ h9 => h9) tyX11 tyX11_ok nmX11 rfl rfl rfl hf (Or.inl (by decide)) rfl rfl rfl dX11_init_100 (fun s20 es20 hf => ?_)
  exact zb_X11_init_103 hE hf
set_option maxRecDepth 20000 in
theorem le_X11_init_94 {N : Nat} {r : AS}  {l0 : Nat} {s : AS} (hf : f_X11_init_94 N l0 s = some r) : Le s r := by
  unfold f_X11_init_94 at hf
  obtain ⟨s19, es19, hf⟩ := ob hf
  refine Le.of (t := (s.1, s.2)) rfl ((le_nArr es19).tr ?_)
  exact Le.via (le_X11_init_100 hf) rfl
set_option maxRecDepth 20000 in
theorem zb_X11_init_94 {N : Nat} {r : AS} {E : EV} (hE : TG E none r)  {l0 : Nat} {s : AS} (hf : f_X11_init_94 N l0 s = some r) : Z E yX11_init cX11_init 3 none 3 s 94 [(0, .ref l0)] [] := by
  unfold f_X11_init_94 at hf
  refine z_aload_n 0 dX11_init_94 rfl rfl ?_
  refine z_bipush 12 12 dX11_init_95 (by decide) ?_
  refine z_newq hf (fun _ hf => tg_le hE (le_X11_init_100 hf)) mw_2_9 dX11_init_97 (fun s19 hf => ?_)
  exact zb_X11_init_100 hE hf
set_option maxRecDepth 20000 in
theorem le_X11_init_91 {N : Nat} {r : AS}  {l0 : Nat} {t0 : Nat} {t1 : Nat} {s : AS} (hf : f_X11_init_91 N l0 t0 t1 s = some r) : Le s r := by
  unfold f_X11_init_91 at hf
  obtain ⟨s18, es18, hf⟩ := ob hf
  refine Le.of (t := (s.1, s.2)) rfl ((le_pP es18).tr ?_)
  exact Le.via (le_X11_init_94 hf) rfl
set_option maxRecDepth 20000 in
theorem zb_X11_init_91 {N : Nat} {r : AS} {E : EV} (hE : TG E none r)  {l0 : Nat} {t0 : Nat} {t1 : Nat} {s : AS} (hf : f_X11_init_91 N l0 t0 t1 s = some r) : Z E yX11_init cX11_init 3 none 3 s 91 [(0, .ref l0)] [.ref t1, .ref t0] := by
  unfold f_X11_init_91 at hf
  refine z_pP (ci := 11) (k := 5) (C := RX11) (T := TX11) (N := 14) rfl inlX11 (by decide) mw_2_8 (fun _ _ _ _ h9 => h9) tyX11 tyX11_ok nmX11 rfl rfl rfl hf (Or.inl (by decide)) rfl rfl rfl dX11_init_91 (fun s18 es18 hf => ?_)
  exact zb_X11_init_94 hE hf
set_option maxRecDepth 20000 in
theorem le_X11_init_75 {N : Nat} {r : AS}  {l0 : Nat} {t0 : Nat} {t1 : Nat} {s : AS} (hf : f_X11_init_75 N l0 t0 t1 s = some r) : Le s r := by
  unfold f_X11_init_75 at hf
  obtain ⟨v14, -, hf⟩ := ob hf
  obtain ⟨v15, -, hf⟩ := ob hf
  obtain ⟨v16, -, hf⟩ := ob hf
  obtain ⟨v17, ev17, hf⟩ := ob hf
  refine Le.of (t := (s.1, s.2)) rfl ((lm_X5_init ev17).tr ?_)
  exact Le.via (le_X11_init_91 hf) rfl
set_option maxRecDepth 20000 in
theorem zb_X11_init_75 {N : Nat} {r : AS} {E : EV} (hE : TG E none r)  {l0 : Nat} {t0 : Nat} {t1 : Nat} {s : AS} (hf : f_X11_init_75 N l0 t0 t1 s = some r) : Z E yX11_init cX11_init 3 none 3 s 75 [(0, .ref l0)] [.ref t1, .ref t0] := by
  unfold f_X11_init_75 at hf
  refine z_dup dX11_init_75 rfl ?_
  refine z_aload_n 0 dX11_init_76 rfl rfl ?_
  refine z_gP (ci := 11) (k := 1) (C := RX11) (T := TX11) (N := 14) rfl inlX11 (by decide) mw_1_19 (fun _ _ _ _ h9 => h9) hf (by decide) rfl dX11_init_77  (fun v14 hf => ?_)
  refine z_aload_n 0 dX11_init_80 rfl rfl ?_
  refine z_gP (ci := 11) (k := 3) (C := RX11) (T := TX11) (N := 14) rfl inlX11 (by decide) mw_2_0 (fun _ _ _ _ h9 => h9) hf (by decide) rfl dX11_init_81  (fun v15 hf => ?_)
  refine z_aload_n 0 dX11_init_84 rfl rfl ?_
  refine z_gP (ci := 11) (k := 4) (C := RX11) (T := TX11) (N := 14) rfl inlX11 (by decide) mw_2_4 (fun _ _ _ _ h9 => h9) hf (by decide) rfl dX11_init_85  (fun v16 hf => ?_)
  obtain ⟨v17, ev17, hf⟩ := ob hf
  refine z_cI (As := [.ref v14, .ref v15, .ref v16]) (rest := [.ref t1, .ref t0]) (zm_X5_init ev17).2 (Or.inr (tg_le hE (le_X11_init_91 hf))) mw_5_13 mw_5_14 mw_2_7 mw_5_15 rfl yk_X5_init (by decide) (by decide) rfl (Nat.le_of_ble_eq_true rfl) rfl dX11_init_88 ?_
  exact zb_X11_init_91 hE hf
set_option maxRecDepth 20000 in
theorem le_X11_init_71 {N : Nat} {r : AS}  {l0 : Nat} {s : AS} (hf : f_X11_init_71 N l0 s = some r) : Le s r := by
  unfold f_X11_init_71 at hf
  refine Le.of (t := (s.1, s.2)) rfl (le_nObj.tr (u := _) (t := nObj (s.1, s.2) 5) ?_)
  exact Le.via (le_X11_init_75 hf) rfl
set_option maxRecDepth 20000 in
theorem zb_X11_init_71 {N : Nat} {r : AS} {E : EV} (hE : TG E none r)  {l0 : Nat} {s : AS} (hf : f_X11_init_71 N l0 s = some r) : Z E yX11_init cX11_init 3 none 3 s 71 [(0, .ref l0)] [] := by
  unfold f_X11_init_71 at hf
  refine z_aload_n 0 dX11_init_71 rfl rfl ?_
  refine z_newo (ci := 5) (C := RX5) (T := TX5) (N := 13) rfl inlX5 tyX5 tyX5_ok mw_2_5 mw_2_6 mw_2_7 rfl df_5 (tg_le hE (le_X11_init_75 hf)) dX11_init_72 ?_
  exact zb_X11_init_75 hE hf
set_option maxRecDepth 20000 in
theorem le_X11_init_68 {N : Nat} {r : AS}  {l0 : Nat} {t0 : Nat} {t1 : Nat} {s : AS} (hf : f_X11_init_68 N l0 t0 t1 s = some r) : Le s r := by
  unfold f_X11_init_68 at hf
  obtain ⟨s13, es13, hf⟩ := ob hf
  refine Le.of (t := (s.1, s.2)) rfl ((le_pP es13).tr ?_)
  exact Le.via (le_X11_init_71 hf) rfl
set_option maxRecDepth 20000 in
theorem zb_X11_init_68 {N : Nat} {r : AS} {E : EV} (hE : TG E none r)  {l0 : Nat} {t0 : Nat} {t1 : Nat} {s : AS} (hf : f_X11_init_68 N l0 t0 t1 s = some r) : Z E yX11_init cX11_init 3 none 3 s 68 [(0, .ref l0)] [.ref t1, .ref t0] := by
  unfold f_X11_init_68 at hf
  refine z_pP (ci := 11) (k := 4) (C := RX11) (T := TX11) (N := 14) rfl inlX11 (by decide) mw_2_4 (fun _ _ _ _ h9 => h9) tyX11 tyX11_ok nmX11 rfl rfl rfl hf (Or.inl (by decide)) rfl rfl rfl dX11_init_68 (fun s13 es13 hf => ?_)
  exact zb_X11_init_71 hE hf
set_option maxRecDepth 20000 in
theorem le_X11_init_56 {N : Nat} {r : AS}  {l0 : Nat} {t0 : Nat} {t1 : Nat} {s : AS} (hf : f_X11_init_56 N l0 t0 t1 s = some r) : Le s r := by
  unfold f_X11_init_56 at hf
  obtain ⟨v10, -, hf⟩ := ob hf
  obtain ⟨v11, -, hf⟩ := ob hf
  obtain ⟨v12, ev12, hf⟩ := ob hf
  refine Le.of (t := (s.1, s.2)) rfl ((lm_X4_init ev12).tr ?_)
  exact Le.via (le_X11_init_68 hf) rfl
set_option maxRecDepth 20000 in
theorem zb_X11_init_56 {N : Nat} {r : AS} {E : EV} (hE : TG E none r)  {l0 : Nat} {t0 : Nat} {t1 : Nat} {s : AS} (hf : f_X11_init_56 N l0 t0 t1 s = some r) : Z E yX11_init cX11_init 3 none 3 s 56 [(0, .ref l0)] [.ref t1, .ref t0] := by
  unfold f_X11_init_56 at hf
  refine z_dup dX11_init_56 rfl ?_
  refine z_aload_n 0 dX11_init_57 rfl rfl ?_
  refine z_gP (ci := 11) (k := 1) (C := RX11) (T := TX11) (N := 14) rfl inlX11 (by decide) mw_1_19 (fun _ _ _ _ h9 => h9) hf (by decide) rfl dX11_init_58  (fun v10 hf => ?_)
  refine z_aload_n 0 dX11_init_61 rfl rfl ?_
  refine z_gP (ci := 11) (k := 3) (C := RX11) (T := TX11) (N := 14) rfl inlX11 (by decide) mw_2_0 (fun _ _ _ _ h9 => h9) hf (by decide) rfl dX11_init_62  (fun v11 hf => ?_)
  obtain ⟨v12, ev12, hf⟩ := ob hf
  refine z_cI (As := [.ref v10, .ref v11]) (rest := [.ref t1, .ref t0]) (zm_X4_init ev12).2 (Or.inr (tg_le hE (le_X11_init_68 hf))) mw_4_20 mw_4_21 mw_2_3 mw_4_22 rfl yk_X4_init (by decide) (by decide) rfl (Nat.le_of_ble_eq_true rfl) rfl dX11_init_65 ?_
  exact zb_X11_init_68 hE hf
set_option maxRecDepth 20000 in
theorem le_X11_init_52 {N : Nat} {r : AS}  {l0 : Nat} {s : AS} (hf : f_X11_init_52 N l0 s = some r) : Le s r := by
  unfold f_X11_init_52 at hf
  refine Le.of (t := (s.1, s.2)) rfl (le_nObj.tr (u := _) (t := nObj (s.1, s.2) 4) ?_)
  exact Le.via (le_X11_init_56 hf) rfl
set_option maxRecDepth 20000 in
theorem zb_X11_init_52 {N : Nat} {r : AS} {E : EV} (hE : TG E none r)  {l0 : Nat} {s : AS} (hf : f_X11_init_52 N l0 s = some r) : Z E yX11_init cX11_init 3 none 3 s 52 [(0, .ref l0)] [] := by
  unfold f_X11_init_52 at hf
  refine z_aload_n 0 dX11_init_52 rfl rfl ?_
  refine z_newo (ci := 4) (C := RX4) (T := TX4) (N := 12) rfl inlX4 tyX4 tyX4_ok mw_2_1 mw_2_2 mw_2_3 rfl df_4 (tg_le hE (le_X11_init_56 hf)) dX11_init_53 ?_
  exact zb_X11_init_56 hE hf
set_option maxRecDepth 20000 in
theorem le_X11_init_49 {N : Nat} {r : AS}  {l0 : Nat} {t0 : Nat} {t1 : Nat} {s : AS} (hf : f_X11_init_49 N l0 t0 t1 s = some r) : Le s r := by
  unfold f_X11_init_49 at hf
  obtain ⟨s9, es9, hf⟩ := ob hf
  refine Le.of (t := (s.1, s.2)) rfl ((le_pP es9).tr ?_)
  exact Le.via (le_X11_init_52 hf) rfl
set_option maxRecDepth 20000 in
theorem zb_X11_init_49 {N : Nat} {r : AS} {E : EV} (hE : TG E none r)  {l0 : Nat} {t0 : Nat} {t1 : Nat} {s : AS} (hf : f_X11_init_49 N l0 t0 t1 s = some r) : Z E yX11_init cX11_init 3 none 3 s 49 [(0, .ref l0)] [.ref t1, .ref t0] := by
  unfold f_X11_init_49 at hf
  refine z_pP (ci := 11) (k := 3) (C := RX11) (T := TX11) (N := 14) rfl inlX11 (by decide) mw_2_0 (fun _ _ _ _ h9 => h9) tyX11 tyX11_ok nmX11 rfl rfl rfl hf (Or.inl (by decide)) rfl rfl rfl dX11_init_49 (fun s9 es9 hf => ?_)
  exact zb_X11_init_52 hE hf
set_option maxRecDepth 20000 in
theorem le_X11_init_41 {N : Nat} {r : AS}  {l0 : Nat} {t0 : Nat} {t1 : Nat} {s : AS} (hf : f_X11_init_41 N l0 t0 t1 s = some r) : Le s r := by
  unfold f_X11_init_41 at hf
  obtain ⟨v7, -, hf⟩ := ob hf
  obtain ⟨v8, ev8, hf⟩ := ob hf
  refine Le.of (t := (s.1, s.2)) rfl ((lm_X10_init ev8).tr ?_)
  exact Le.via (le_X11_init_49 hf) rfl
set_option maxRecDepth 20000 in
theorem zb_X11_init_41 {N : Nat} {r : AS} {E : EV} (hE : TG E none r)  {l0 : Nat} {t0 : Nat} {t1 : Nat} {s : AS} (hf : f_X11_init_41 N l0 t0 t1 s = some r) : Z E yX11_init cX11_init 3 none 3 s 41 [(0, .ref l0)] [.ref t1, .ref t0] := by
  unfold f_X11_init_41 at hf
  refine z_dup dX11_init_41 rfl ?_
  refine z_aload_n 0 dX11_init_42 rfl rfl ?_
  refine z_gP (ci := 11) (k := 1) (C := RX11) (T := TX11) (N := 14) rfl inlX11 (by decide) mw_1_19 (fun _ _ _ _ h9 => h9) hf (by decide) rfl dX11_init_43  (fun v7 hf => ?_)
  obtain ⟨v8, ev8, hf⟩ := ob hf
  refine z_cI (As := [.ref v7]) (rest := [.ref t1, .ref t0]) (zm_X10_init ev8).2 (Or.inr (tg_le hE (le_X11_init_49 hf))) mw_4_9 mw_4_10 mw_1_23 mw_4_11 rfl yk_X10_init (by decide) (by decide) rfl (Nat.le_of_ble_eq_true rfl) rfl dX11_init_46 ?_
  exact zb_X11_init_49 hE hf
set_option maxRecDepth 20000 in
theorem le_X11_init_37 {N : Nat} {r : AS}  {l0 : Nat} {s : AS} (hf : f_X11_init_37 N l0 s = some r) : Le s r := by
  unfold f_X11_init_37 at hf
  refine Le.of (t := (s.1, s.2)) rfl (le_nObj.tr (u := _) (t := nObj (s.1, s.2) 10) ?_)
  exact Le.via (le_X11_init_41 hf) rfl
set_option maxRecDepth 20000 in
theorem zb_X11_init_37 {N : Nat} {r : AS} {E : EV} (hE : TG E none r)  {l0 : Nat} {s : AS} (hf : f_X11_init_37 N l0 s = some r) : Z E yX11_init cX11_init 3 none 3 s 37 [(0, .ref l0)] [] := by
  unfold f_X11_init_37 at hf
  refine z_aload_n 0 dX11_init_37 rfl rfl ?_
  refine z_newo (ci := 10) (C := RX10) (T := TX10) (N := 6) rfl inlX10 tyX10 tyX10_ok mw_1_21 mw_1_22 mw_1_23 rfl df_10 (tg_le hE (le_X11_init_41 hf)) dX11_init_38 ?_
  exact zb_X11_init_41 hE hf
set_option maxRecDepth 20000 in
theorem le_X11_init_34 {N : Nat} {r : AS}  {l0 : Nat} {t0 : Nat} {t1 : Nat} {s : AS} (hf : f_X11_init_34 N l0 t0 t1 s = some r) : Le s r := by
  unfold f_X11_init_34 at hf
  obtain ⟨s6, es6, hf⟩ := ob hf
  refine Le.of (t := (s.1, s.2)) rfl ((le_pP es6).tr ?_)
  exact Le.via (le_X11_init_37 hf) rfl
set_option maxRecDepth 20000 in
theorem zb_X11_init_34 {N : Nat} {r : AS} {E : EV} (hE : TG E none r)  {l0 : Nat} {t0 : Nat} {t1 : Nat} {s : AS} (hf : f_X11_init_34 N l0 t0 t1 s = some r) : Z E yX11_init cX11_init 3 none 3 s 34 [(0, .ref l0)] [.ref t1, .ref t0] := by
  unfold f_X11_init_34 at hf
  refine z_pP (ci := 11) (k := 2) (C := RX11) (T := TX11) (N := 14) rfl inlX11 (by decide) mw_1_20 (fun _ _ _ _ h9 => h9) tyX11 tyX11_ok nmX11 rfl rfl rfl hf (Or.inl (by decide)) rfl rfl rfl dX11_init_34 (fun s6 es6 hf => ?_)
  exact zb_X11_init_37 hE hf
set_option maxRecDepth 20000 in
theorem le_X11_init_30 {N : Nat} {r : AS}  {l0 : Nat} {t0 : Nat} {t1 : Nat} {s : AS} (hf : f_X11_init_30 N l0 t0 t1 s = some r) : Le s r := by
  unfold f_X11_init_30 at hf
  obtain ⟨v5, ev5, hf⟩ := ob hf
  refine Le.of (t := (s.1, s.2)) rfl ((lm_X1_init ev5).tr ?_)
  exact Le.via (le_X11_init_34 hf) rfl
set_option maxRecDepth 20000 in
theorem zb_X11_init_30 {N : Nat} {r : AS} {E : EV} (hE : TG E none r)  {l0 : Nat} {t0 : Nat} {t1 : Nat} {s : AS} (hf : f_X11_init_30 N l0 t0 t1 s = some r) : Z E yX11_init cX11_init 3 none 3 s 30 [(0, .ref l0)] [.ref t1, .ref t0] := by
  unfold f_X11_init_30 at hf
  refine z_dup dX11_init_30 rfl ?_
  obtain ⟨v5, ev5, hf⟩ := ob hf
  refine z_cI (As := []) (rest := [.ref t1, .ref t0]) (zm_X1_init ev5).2 (Or.inr (tg_le hE (le_X11_init_34 hf))) mw_3_6 mw_3_7 mw_1_18 mw_3_8 rfl yk_X1_init (by decide) (by decide) rfl (Nat.le_of_ble_eq_true rfl) rfl dX11_init_31 ?_
  exact zb_X11_init_34 hE hf
set_option maxRecDepth 20000 in
theorem le_X11_init_26 {N : Nat} {r : AS}  {l0 : Nat} {s : AS} (hf : f_X11_init_26 N l0 s = some r) : Le s r := by
  unfold f_X11_init_26 at hf
  refine Le.of (t := (s.1, s.2)) rfl (le_nObj.tr (u := _) (t := nObj (s.1, s.2) 1) ?_)
  exact Le.via (le_X11_init_30 hf) rfl
set_option maxRecDepth 20000 in
theorem zb_X11_init_26 {N : Nat} {r : AS} {E : EV} (hE : TG E none r)  {l0 : Nat} {s : AS} (hf : f_X11_init_26 N l0 s = some r) : Z E yX11_init cX11_init 3 none 3 s 26 [(0, .ref l0)] [] := by
  unfold f_X11_init_26 at hf
  refine z_aload_n 0 dX11_init_26 rfl rfl ?_
  refine z_newo (ci := 1) (C := RX1) (T := TX1) (N := 8) rfl inlX1 tyX1 tyX1_ok mw_1_16 mw_1_17 mw_1_18 rfl df_1 (tg_le hE (le_X11_init_30 hf)) dX11_init_27 ?_
  exact zb_X11_init_30 hE hf
set_option maxRecDepth 20000 in
theorem le_X11_init_23 {N : Nat} {r : AS}  {l0 : Nat} {t0 : Nat} {t1 : Nat} {s : AS} (hf : f_X11_init_23 N l0 t0 t1 s = some r) : Le s r := by
  unfold f_X11_init_23 at hf
  obtain ⟨s4, es4, hf⟩ := ob hf
  refine Le.of (t := (s.1, s.2)) rfl ((le_pP es4).tr ?_)
  exact Le.via (le_X11_init_26 hf) rfl
set_option maxRecDepth 20000 in
theorem zb_X11_init_23 {N : Nat} {r : AS} {E : EV} (hE : TG E none r)  {l0 : Nat} {t0 : Nat} {t1 : Nat} {s : AS} (hf : f_X11_init_23 N l0 t0 t1 s = some r) : Z E yX11_init cX11_init 3 none 3 s 23 [(0, .ref l0)] [.ref t1, .ref t0] := by
  unfold f_X11_init_23 at hf
  refine z_pP (ci := 11) (k := 1) (C := RX11) (T := TX11) (N := 14) rfl inlX11 (by decide) mw_1_19 (fun _ _ _ _ h9 => h9) tyX11 tyX11_ok nmX11 rfl rfl rfl hf (Or.inl (by decide)) rfl rfl rfl dX11_init_23 (fun s4 es4 hf => ?_)
  exact zb_X11_init_26 hE hf
set_option maxRecDepth 20000 in
theorem le_X11_init_19 {N : Nat} {r : AS}  {l0 : Nat} {t0 : Nat} {t1 : Nat} {s : AS} (hf : f_X11_init_19 N l0 t0 t1 s = some r) : Le s r := by
  unfold f_X11_init_19 at hf
  obtain ⟨v3, ev3, hf⟩ := ob hf
  refine Le.of (t := (s.1, s.2)) rfl ((lm_X1_init ev3).tr ?_)
  exact Le.via (le_X11_init_23 hf) rfl
set_option maxRecDepth 20000 in
theorem zb_X11_init_19 {N : Nat} {r : AS} {E : EV} (hE : TG E none r)  {l0 : Nat} {t0 : Nat} {t1 : Nat} {s : AS} (hf : f_X11_init_19 N l0 t0 t1 s = some r) : Z E yX11_init cX11_init 3 none 3 s 19 [(0, .ref l0)] [.ref t1, .ref t0] := by
  unfold f_X11_init_19 at hf
  refine z_dup dX11_init_19 rfl ?_
  obtain ⟨v3, ev3, hf⟩ := ob hf
  refine z_cI (As := []) (rest := [.ref t1, .ref t0]) (zm_X1_init ev3).2 (Or.inr (tg_le hE (le_X11_init_23 hf))) mw_3_6 mw_3_7 mw_1_18 mw_3_8 rfl yk_X1_init (by decide) (by decide) rfl (Nat.le_of_ble_eq_true rfl) rfl dX11_init_20 ?_
  exact zb_X11_init_23 hE hf
set_option maxRecDepth 20000 in
theorem le_X11_init_15 {N : Nat} {r : AS}  {l0 : Nat} {s : AS} (hf : f_X11_init_15 N l0 s = some r) : Le s r := by
  unfold f_X11_init_15 at hf
  refine Le.of (t := (s.1, s.2)) rfl (le_nObj.tr (u := _) (t := nObj (s.1, s.2) 1) ?_)
  exact Le.via (le_X11_init_19 hf) rfl
set_option maxRecDepth 20000 in
theorem zb_X11_init_15 {N : Nat} {r : AS} {E : EV} (hE : TG E none r)  {l0 : Nat} {s : AS} (hf : f_X11_init_15 N l0 s = some r) : Z E yX11_init cX11_init 3 none 3 s 15 [(0, .ref l0)] [] := by
  unfold f_X11_init_15 at hf
  refine z_aload_n 0 dX11_init_15 rfl rfl ?_
  refine z_newo (ci := 1) (C := RX1) (T := TX1) (N := 8) rfl inlX1 tyX1 tyX1_ok mw_1_16 mw_1_17 mw_1_18 rfl df_1 (tg_le hE (le_X11_init_19 hf)) dX11_init_16 ?_
  exact zb_X11_init_19 hE hf
set_option maxRecDepth 20000 in
theorem le_X11_init_12 {N : Nat} {r : AS}  {l0 : Nat} {t0 : Nat} {t1 : Nat} {s : AS} (hf : f_X11_init_12 N l0 t0 t1 s = some r) : Le s r := by
  unfold f_X11_init_12 at hf
  obtain ⟨s2, es2, hf⟩ := ob hf
  refine Le.of (t := (s.1, s.2)) rfl ((le_pP es2).tr ?_)
  exact Le.via (le_X11_init_15 hf) rfl
set_option maxRecDepth 20000 in
theorem zb_X11_init_12 {N : Nat} {r : AS} {E : EV} (hE : TG E none r)  {l0 : Nat} {t0 : Nat} {t1 : Nat} {s : AS} (hf : f_X11_init_12 N l0 t0 t1 s = some r) : Z E yX11_init cX11_init 3 none 3 s 12 [(0, .ref l0)] [.ref t1, .ref t0] := by
  unfold f_X11_init_12 at hf
  refine z_pP (ci := 11) (k := 0) (C := RX11) (T := TX11) (N := 14) rfl inlX11 (by decide) mw_1_15 (fun _ _ _ _ h9 => h9) tyX11 tyX11_ok nmX11 rfl rfl rfl hf (Or.inl (by decide)) rfl rfl rfl dX11_init_12 (fun s2 es2 hf => ?_)
  exact zb_X11_init_15 hE hf
set_option maxRecDepth 20000 in
theorem le_X11_init_8 {N : Nat} {r : AS}  {l0 : Nat} {t0 : Nat} {t1 : Nat} {s : AS} (hf : f_X11_init_8 N l0 t0 t1 s = some r) : Le s r := by
  unfold f_X11_init_8 at hf
  obtain ⟨v1, ev1, hf⟩ := ob hf
  refine Le.of (t := (s.1, s.2)) rfl ((lm_X2_init ev1).tr ?_)
  exact Le.via (le_X11_init_12 hf) rfl
set_option maxRecDepth 20000 in
theorem zb_X11_init_8 {N : Nat} {r : AS} {E : EV} (hE : TG E none r)  {l0 : Nat} {t0 : Nat} {t1 : Nat} {s : AS} (hf : f_X11_init_8 N l0 t0 t1 s = some r) : Z E yX11_init cX11_init 3 none 3 s 8 [(0, .ref l0)] [.ref t1, .ref t0] := by
  unfold f_X11_init_8 at hf
  refine z_dup dX11_init_8 rfl ?_
  obtain ⟨v1, ev1, hf⟩ := ob hf
  refine z_cIN (As := []) (rest := [.ref t1, .ref t0]) (zm_X2_init ev1).2 (Or.inr (tg_le hE (le_X11_init_12 hf))) (fun _ _ hK => hK.2.2.2.1) mw_2_23 mw_1_14 mw_3_0 rfl yk_X2_init (by decide) (by decide) rfl (Nat.le_of_ble_eq_true rfl) rfl dX11_init_9 ?_
  exact zb_X11_init_12 hE hf
set_option maxRecDepth 20000 in
theorem lm_X11_init {N : Nat} {s : AS} {l0 : Nat} {r : AS} (hf : f_X11_init N l0 s = some r) : Le s r := by
  unfold f_X11_init at hf
  split at hf
  · skip
    refine Le.of (t := (s.1, s.2)) rfl (le_nObj.tr (u := _) (t := nObj (s.1, s.2) 2) ?_)
    exact Le.via (le_X11_init_8 hf) rfl
  · cases hf
set_option maxRecDepth 20000 in
theorem zm_X11_init {N : Nat} {s : AS} {l0 : Nat} {r : AS} (hf : f_X11_init N l0 s = some r) : isO s.1 l0 11 ∧ ∀ (l : Launch) (G : GG), Mt l G yX11_init cX11_init 3 none 3 [.ref l0] s none r := by
  have hf0 := hf
  unfold f_X11_init at hf
  split at hf
  · rename_i hO
    refine ⟨hO, fun l G => mt_of (Or.inl (by decide)) (Nat.le_of_ble_eq_true rfl) (lm_X11_init hf0) (fun E hE => ?_)⟩
    show Z E yX11_init cX11_init 3 none 3 s 0 [(0, .ref l0)] []
    refine z_aload_n 0 dX11_init_0 rfl rfl ?_
    refine z_objInit mw_1_9 mw_1_10 mw_1_11 (by decide) (Nat.le_of_ble_eq_true rfl) dX11_init_1 ?_
    refine z_aload_n 0 dX11_init_4 rfl rfl ?_
    refine z_newo (ci := 2) (C := RX2) (T := TX2) (N := 4) rfl inlX2 tyX2 tyX2_ok mw_1_12 mw_1_13 mw_1_14 rfl df_2 (tg_le hE (le_X11_init_8 hf)) dX11_init_5 ?_
    exact zb_X11_init_8 hE hf
  · cases hf
set_option maxRecDepth 20000 in
theorem zb_X1_sidesDue_25 {N : Nat} {sh : Sh} {d : Dt} {r : Int32} {E : EV} (hE : TG E (some (.int r)) (sh, d))  {t0 : Int32} (hf : f_X1_sidesDue_25 N sh t0 d = some r) : Z E yX1_sidesDue cX1_sidesDue 2 (some .int) 2 (sh, d) 25 [] [.int t0] := by
  unfold f_X1_sidesDue_25 at hf
  cases hf
  exact z_ireturn hE rfl dX1_sidesDue_25
set_option maxRecDepth 20000 in
theorem zm_X1_sidesDue {N : Nat} {sh : Sh} {d : Dt} {l0 : Nat} {l1 : Int32} {r : Int32} (hf : f_X1_sidesDue N sh l0 l1 d = some r) : isO sh l0 1 ∧ ∀ (l : Launch) (G : GG), Mt l G yX1_sidesDue cX1_sidesDue 2 (some .int) 2 [.ref l0, .int l1] (sh, d) (some (.int r)) (sh, d) := by
  have hf0 := hf
  unfold f_X1_sidesDue at hf
  split at hf
  · rename_i hO
    refine ⟨hO, fun l G => mt_of (Or.inl (by decide)) (Nat.le_of_ble_eq_true rfl) Le.rf (fun E hE => ?_)⟩
    show Z E yX1_sidesDue cX1_sidesDue 2 (some .int) 2 (sh, d) 0 [(0, .ref l0), (1, .int l1)] []
    refine z_aload_n 0 dX1_sidesDue_0 rfl rfl ?_
    refine z_gP (ci := 1) (k := 1) (C := RX1) (T := TX1) (N := 8) rfl inlX1 (by decide) mw_3_14 (fun _ _ _ _ h9 => h9) hf (by decide) rfl dX1_sidesDue_1  (fun v1 hf => ?_)
    refine z_iload_n 1 dX1_sidesDue_4 rfl rfl ?_
    refine z_iconst 4 4 dX1_sidesDue_5 (by decide) ?_
    obtain ⟨v2, ev2, hf⟩ := ob hf
    refine z_cVi (ci := 8) (T := TX8) (N := 2) (As := [.int l1, .int (4 : Int32)]) (rest := []) (zm_X8_get ev2).2 (zm_X8_get ev2).1 (by decide) rfl (Or.inl rfl) mw_10_10 mw_10_11 mw_10_12 mw_3_13 mw_10_13 yk_X8_get (by decide) (by decide) rfl (Nat.le_of_ble_eq_true rfl) rfl dX1_sidesDue_6 ?_
    refine z_if_ne 24 hf dX1_sidesDue_9 (by decide) (fun hf => ?_) (fun hf => ?_)
    · refine z_iconst 0 0 dX1_sidesDue_24 (by decide) ?_
      refine z_lv [] [] rfl ?_
      exact zb_X1_sidesDue_25 hE hf
    · refine z_aload_n 0 dX1_sidesDue_12 rfl rfl ?_
      refine z_gP (ci := 1) (k := 1) (C := RX1) (T := TX1) (N := 8) rfl inlX1 (by decide) mw_3_14 (fun _ _ _ _ h9 => h9) hf (by decide) rfl dX1_sidesDue_13  (fun v3 hf => ?_)
      refine z_iload_n 1 dX1_sidesDue_16 rfl rfl ?_
      refine z_iconst 3 3 dX1_sidesDue_17 (by decide) ?_
      obtain ⟨v4, ev4, hf⟩ := ob hf
      refine z_cVi (ci := 8) (T := TX8) (N := 2) (As := [.int l1, .int (3 : Int32)]) (rest := []) (zm_X8_get ev4).2 (zm_X8_get ev4).1 (by decide) rfl (Or.inl rfl) mw_10_10 mw_10_11 mw_10_12 mw_3_13 mw_10_13 yk_X8_get (by decide) (by decide) rfl (Nat.le_of_ble_eq_true rfl) rfl dX1_sidesDue_18 ?_
      refine z_goto 25 dX1_sidesDue_21 (by decide) ?_
      refine z_lv [] [] rfl ?_
      exact zb_X1_sidesDue_25 hE hf
  · cases hf
set_option maxRecDepth 20000 in
theorem zb_X4_oddBits_72 {N : Nat} {sh : Sh} {d : Dt} {r : Int64} {E : EV} (hE : TG E (some (.long r)) (sh, d))  {l1 : Int64} (hf : f_X4_oddBits_72 N sh l1 d = some r) : Z E yX4_oddBits cX4_oddBits 4 (some .long) 3 (sh, d) 72 [(1, .long l1)] [] := by
  unfold f_X4_oddBits_72 at hf
  refine z_lload_n 0 dX4_oddBits_72 rfl rfl ?_
  cases hf
  exact z_lreturn hE rfl dX4_oddBits_73
set_option maxRecDepth 20000 in
theorem zb_X4_oddBits_66 {N : Nat} {sh : Sh} {d : Dt} {k4 : Nat → Int64 → Int32 → Option Int64} {r : Int64} {E : EV} (hE : TG E (some (.long r)) (sh, d)) (hk4 : ∀ (l0 : Nat) (l1 : Int64) (l3 : Int32), k4 l0 l1 l3 = some r → Z E yX4_oddBits cX4_oddBits 4 (some .long) 3 (sh, d) 4 [(0, .ref l0), (1, .long l1), (3, .int l3)] []) {l0 : Nat} {l1 : Int64} {l3 : Int32} (hf : f_X4_oddBits_66 N sh k4 l0 l1 l3 d = some r) : Z E yX4_oddBits cX4_oddBits 4 (some .long) 3 (sh, d) 66 [(0, .ref l0), (1, .long l1), (3, .int l3)] [] := by
  unfold f_X4_oddBits_66 at hf
  refine z_iinc [(3, .int (l3 + 1)), (0, .ref l0), (1, .long l1)] 2 (l3 + 1) dX4_oddBits_66 rfl rfl (by decide) rfl ?_
  refine z_goto 4 dX4_oddBits_69 (by decide) ?_
  refine z_lv [(0, .ref l0), (1, .long l1), (3, .int (l3 + 1))] [1, 2, 0] rfl ?_
  exact hk4 _ _ _ hf
set_option maxRecDepth 20000 in
theorem zg_X4_oddBits_4 {N : Nat} {sh : Sh} {d : Dt} {r : Int64} {k4 : Nat → Int64 → Int32 → Option Int64} {E : EV} (hE : TG E (some (.long r)) (sh, d))  (hk4 : ∀ (l0 : Nat) (l1 : Int64) (l3 : Int32), k4 l0 l1 l3 = some r → Z E yX4_oddBits cX4_oddBits 4 (some .long) 3 (sh, d) 4 [(0, .ref l0), (1, .long l1), (3, .int l3)] []) {l0 : Nat} {l1 : Int64} {l3 : Int32} (hf : g_X4_oddBits_4 N sh k4 l0 l1 l3 d = some r) : Z E yX4_oddBits cX4_oddBits 4 (some .long) 3 (sh, d) 4 [(0, .ref l0), (1, .long l1), (3, .int l3)] [] := by
  unfold g_X4_oddBits_4 at hf
  refine z_iload_n 2 dX4_oddBits_4 rfl rfl ?_
  refine z_aload_n 0 dX4_oddBits_5 rfl rfl ?_
  refine z_gP (ci := 4) (k := 0) (C := RX4) (T := TX4) (N := 12) rfl inlX4 (by decide) mw_5_11 (fun _ _ _ _ h9 => h9) hf (by decide) rfl dX4_oddBits_6  (fun v1 hf => ?_)
  refine z_gP (ci := 1) (k := 1) (C := RX1) (T := TX1) (N := 8) rfl inlX1 (by decide) mw_39_17 (fun _ _ _ _ h9 => h9) hf (by decide) rfl dX4_oddBits_9  (fun v2 hf => ?_)
  refine z_gI (ci := 8) (k := 1) (C := RX8) (T := TX8) (N := 2) rfl inlX8 (by decide) mw_39_18 (fun _ _ _ _ h9 => h9) hf (by decide) rfl dX4_oddBits_12  (fun v3 hf => ?_)
  refine z_icmp_ge 72 hf dX4_oddBits_15 (by decide) (fun hf => ?_) (fun hf => ?_)
  · refine z_lv [(1, .long l1)] [1] rfl ?_
    exact zb_X4_oddBits_72 hE hf
  · refine z_aload_n 0 dX4_oddBits_18 rfl rfl ?_
    refine z_gP (ci := 4) (k := 0) (C := RX4) (T := TX4) (N := 12) rfl inlX4 (by decide) mw_5_11 (fun _ _ _ _ h9 => h9) hf (by decide) rfl dX4_oddBits_19  (fun v4 hf => ?_)
    refine z_iload_n 2 dX4_oddBits_22 rfl rfl ?_
    obtain ⟨v5, ev5, hf⟩ := ob hf
    refine z_cVi (ci := 1) (T := TX1) (N := 8) (As := [.int l3]) (rest := []) (zm_X1_sidesDue ev5).2 (zm_X1_sidesDue ev5).1 (by decide) rfl (Or.inl rfl) mw_39_19 mw_39_20 mw_39_21 mw_1_18 mw_39_22 yk_X1_sidesDue (by decide) (by decide) rfl (Nat.le_of_ble_eq_true rfl) rfl dX4_oddBits_23 ?_
    refine z_iconst 1 1 dX4_oddBits_26 (by decide) ?_
    refine z_icmp_ne 66 hf dX4_oddBits_27 (by decide) (fun hf => ?_) (fun hf => ?_)
    · exact zb_X4_oddBits_66 hE hk4 hf
    · refine z_lload_n 1 dX4_oddBits_30 rfl rfl ?_
      refine z_lconst 1 1 dX4_oddBits_31 (by decide) ?_
      refine z_aload_n 0 dX4_oddBits_32 rfl rfl ?_
      refine z_gP (ci := 4) (k := 0) (C := RX4) (T := TX4) (N := 12) rfl inlX4 (by decide) mw_5_11 (fun _ _ _ _ h9 => h9) hf (by decide) rfl dX4_oddBits_33  (fun v6 hf => ?_)
      refine z_gP (ci := 1) (k := 1) (C := RX1) (T := TX1) (N := 8) rfl inlX1 (by decide) mw_39_17 (fun _ _ _ _ h9 => h9) hf (by decide) rfl dX4_oddBits_36  (fun v7 hf => ?_)
      refine z_iload_n 2 dX4_oddBits_39 rfl rfl ?_
      refine z_bipush 7 7 dX4_oddBits_40 (by decide) ?_
      obtain ⟨v8, ev8, hf⟩ := ob hf
      refine z_cVi (ci := 8) (T := TX8) (N := 2) (As := [.int l3, .int (7 : Int32)]) (rest := [.long (1 : Int64), .long l1]) (zm_X8_get ev8).2 (zm_X8_get ev8).1 (by decide) rfl (Or.inl rfl) mw_39_23 mw_10_11 mw_10_12 mw_3_13 mw_10_13 yk_X8_get (by decide) (by decide) rfl (Nat.le_of_ble_eq_true rfl) rfl dX4_oddBits_42 ?_
      refine z_lshl dX4_oddBits_45 ?_
      refine z_lxor dX4_oddBits_46 ?_
      refine z_lstore_n [(1, .long (l1 ^^^ ((1 : Int64) <<< (v8.toInt64 &&& 63)))), (0, .ref l0), (3, .int l3)] dX4_oddBits_47 rfl (by decide) rfl ?_
      refine z_lload_n 0 dX4_oddBits_48 rfl rfl ?_
      refine z_lconst 1 1 dX4_oddBits_49 (by decide) ?_
      refine z_aload_n 1 dX4_oddBits_50 rfl rfl ?_
      refine z_gP (ci := 4) (k := 0) (C := RX4) (T := TX4) (N := 12) rfl inlX4 (by decide) mw_5_11 (fun _ _ _ _ h9 => h9) hf (by decide) rfl dX4_oddBits_51  (fun v9 hf => ?_)
      refine z_gP (ci := 1) (k := 1) (C := RX1) (T := TX1) (N := 8) rfl inlX1 (by decide) mw_39_17 (fun _ _ _ _ h9 => h9) hf (by decide) rfl dX4_oddBits_54  (fun v10 hf => ?_)
      refine z_iload_n 2 dX4_oddBits_57 rfl rfl ?_
      refine z_bipush 8 8 dX4_oddBits_58 (by decide) ?_
      obtain ⟨v11, ev11, hf⟩ := ob hf
      refine z_cVi (ci := 8) (T := TX8) (N := 2) (As := [.int l3, .int (8 : Int32)]) (rest := [.long (1 : Int64), .long (l1 ^^^ ((1 : Int64) <<< (v8.toInt64 &&& 63)))]) (zm_X8_get ev11).2 (zm_X8_get ev11).1 (by decide) rfl (Or.inl rfl) mw_39_23 mw_10_11 mw_10_12 mw_3_13 mw_10_13 yk_X8_get (by decide) (by decide) rfl (Nat.le_of_ble_eq_true rfl) rfl dX4_oddBits_60 ?_
      refine z_lshl dX4_oddBits_63 ?_
      refine z_lxor dX4_oddBits_64 ?_
      refine z_lstore_n [(1, .long ((l1 ^^^ ((1 : Int64) <<< (v8.toInt64 &&& 63))) ^^^ ((1 : Int64) <<< (v11.toInt64 &&& 63)))), (0, .ref l0), (3, .int l3)] dX4_oddBits_65 rfl (by decide) rfl ?_
      refine z_lv [(0, .ref l0), (1, .long ((l1 ^^^ ((1 : Int64) <<< (v8.toInt64 &&& 63))) ^^^ ((1 : Int64) <<< (v11.toInt64 &&& 63)))), (3, .int l3)] [1, 0, 2] rfl ?_
      exact zb_X4_oddBits_66 hE hk4 hf
set_option maxRecDepth 20000 in
theorem zb_X4_oddBits_4 {N : Nat} {sh : Sh} {d : Dt} {r : Int64} {E : EV} (hE : TG E (some (.long r)) (sh, d))  : ∀ (n : Nat) (l0 : Nat) (l1 : Int64) (l3 : Int32), f_X4_oddBits_4 N sh d n l0 l1 l3 = some r → Z E yX4_oddBits cX4_oddBits 4 (some .long) 3 (sh, d) 4 [(0, .ref l0), (1, .long l1), (3, .int l3)] [] := by
  intro n
  induction n with
  | zero => intro l0 l1 l3 hf; cases hf
  | succ n ih => intro l0 l1 l3 hf; exact zg_X4_oddBits_4 hE ih hf
set_option maxRecDepth 20000 in
theorem zm_X4_oddBits {N : Nat} {sh : Sh} {d : Dt} {l0 : Nat} {r : Int64} (hf : f_X4_oddBits N sh l0 d = some r) : isO sh l0 4 ∧ ∀ (l : Launch) (G : GG), Mt l G yX4_oddBits cX4_oddBits 4 (some .long) 3 [.ref l0] (sh, d) (some (.long r)) (sh, d) := by
  have hf0 := hf
  unfold f_X4_oddBits at hf
  split at hf
  · rename_i hO
    refine ⟨hO, fun l G => mt_of (Or.inl (by decide)) (Nat.le_of_ble_eq_true rfl) Le.rf (fun E hE => ?_)⟩
    show Z E yX4_oddBits cX4_oddBits 4 (some .long) 3 (sh, d) 0 [(0, .ref l0)] []
    refine z_lconst 0 0 dX4_oddBits_0 (by decide) ?_
    refine z_lstore_n [(1, .long (0 : Int64)), (0, .ref l0)] dX4_oddBits_1 rfl (by decide) rfl ?_
    refine z_iconst 0 0 dX4_oddBits_2 (by decide) ?_
    refine z_istore_n [(3, .int (0 : Int32)), (1, .long (0 : Int64)), (0, .ref l0)] dX4_oddBits_3 rfl (by decide) rfl ?_
    refine z_lv [(0, .ref l0), (1, .long (0 : Int64)), (3, .int (0 : Int32))] [2, 1, 0] rfl ?_
    exact zb_X4_oddBits_4 hE N _ _ _ hf
  · cases hf
set_option maxRecDepth 20000 in
theorem zb_X4_list_66 {N : Nat} {sh : Sh} {r : Int32 × Dt} {E : EV} (hE : TG E (some (.int r.1)) (sh, r.2))  {l0 : Nat} {d : Dt} (hf : f_X4_list_66 N sh l0 d = some r) : Z E yX4_list cX4_list 4 (some .int) 4 (sh, d) 66 [(0, .ref l0)] [] := by
  unfold f_X4_list_66 at hf
  refine z_aload_n 0 dX4_list_66 rfl rfl ?_
  refine z_iconst 1 1 dX4_list_67 (by decide) ?_
  refine z_pI (ci := 4) (k := 4) (C := RX4) (T := TX4) (N := 12) rfl inlX4 (by decide) mw_5_2 (fun _ _ _ _ h9 => h9) tyX4 tyX4_ok nmX4 rfl hf (Or.inl (by decide)) rfl rfl rfl dX4_list_68  (fun d10 hf => ?_)
  refine z_aload_n 0 dX4_list_71 rfl rfl ?_
  refine z_gI (ci := 4) (k := 3) (C := RX4) (T := TX4) (N := 12) rfl inlX4 (by decide) mw_5_1 (fun _ _ _ _ h9 => h9) hf (by decide) rfl dX4_list_72  (fun v11 hf => ?_)
  cases hf
  exact z_ireturn hE rfl dX4_list_75
set_option maxRecDepth 20000 in
theorem zb_X4_list_60 {N : Nat} {sh : Sh} {k24 : Nat → Int64 → Int32 → Dt → Option (Int32 × Dt)} {r : Int32 × Dt} {E : EV} (hE : TG E (some (.int r.1)) (sh, r.2)) (hk24 : ∀ (l0 : Nat) (l1 : Int64) (l3 : Int32) (d : Dt), k24 l0 l1 l3 d = some r → Z E yX4_list cX4_list 4 (some .int) 4 (sh, d) 24 [(0, .ref l0), (1, .long l1), (3, .int l3)] []) {l0 : Nat} {l1 : Int64} {l3 : Int32} {d : Dt} (hf : f_X4_list_60 N sh k24 l0 l1 l3 d = some r) : Z E yX4_list cX4_list 4 (some .int) 4 (sh, d) 60 [(0, .ref l0), (1, .long l1), (3, .int l3)] [] := by
  unfold f_X4_list_60 at hf
  refine z_iinc [(3, .int (l3 + 1)), (0, .ref l0), (1, .long l1)] 2 (l3 + 1) dX4_list_60 rfl rfl (by decide) rfl ?_
  refine z_goto 24 dX4_list_63 (by decide) ?_
  refine z_lv [(0, .ref l0), (1, .long l1), (3, .int (l3 + 1))] [1, 2, 0] rfl ?_
  exact hk24 _ _ _ _ hf
set_option maxRecDepth 20000 in
theorem zg_X4_list_24 {N : Nat} {sh : Sh} {r : Int32 × Dt} {k24 : Nat → Int64 → Int32 → Dt → Option (Int32 × Dt)} {E : EV} (hE : TG E (some (.int r.1)) (sh, r.2))  (hk24 : ∀ (l0 : Nat) (l1 : Int64) (l3 : Int32) (d : Dt), k24 l0 l1 l3 d = some r → Z E yX4_list cX4_list 4 (some .int) 4 (sh, d) 24 [(0, .ref l0), (1, .long l1), (3, .int l3)] []) {l0 : Nat} {l1 : Int64} {l3 : Int32} {d : Dt} (hf : g_X4_list_24 N sh k24 l0 l1 l3 d = some r) : Z E yX4_list cX4_list 4 (some .int) 4 (sh, d) 24 [(0, .ref l0), (1, .long l1), (3, .int l3)] [] := by
  unfold g_X4_list_24 at hf
  refine z_iload_n 2 dX4_list_24 rfl rfl ?_
  refine z_bipush 60 60 dX4_list_25 (by decide) ?_
  refine z_icmp_ge 66 hf dX4_list_27 (by decide) (fun hf => ?_) (fun hf => ?_)
  · refine z_lv [(0, .ref l0)] [0] rfl ?_
    exact zb_X4_list_66 hE hf
  · refine z_lload_n 1 dX4_list_30 rfl rfl ?_
    refine z_iload_n 2 dX4_list_31 rfl rfl ?_
    refine z_lshr dX4_list_32 ?_
    refine z_lconst 1 1 dX4_list_33 (by decide) ?_
    refine z_land dX4_list_34 ?_
    refine z_lconst 1 1 dX4_list_35 (by decide) ?_
    refine z_lcmp dX4_list_36 ?_
    refine z_if_ne 60 hf dX4_list_37 (by decide) (fun hf => ?_) (fun hf => ?_)
    · exact zb_X4_list_60 hE hk24 hf
    · refine z_aload_n 0 dX4_list_40 rfl rfl ?_
      refine z_gP (ci := 4) (k := 2) (C := RX4) (T := TX4) (N := 12) rfl inlX4 (by decide) mw_5_0 (fun _ _ _ _ h9 => h9) hf (by decide) rfl dX4_list_41  (fun v5 hf => ?_)
      refine z_aload_n 0 dX4_list_44 rfl rfl ?_
      refine z_gI (ci := 4) (k := 3) (C := RX4) (T := TX4) (N := 12) rfl inlX4 (by decide) mw_5_1 (fun _ _ _ _ h9 => h9) hf (by decide) rfl dX4_list_45  (fun v6 hf => ?_)
      refine z_iload_n 2 dX4_list_48 rfl rfl ?_
      refine z_sI hf dX4_list_49  (fun d7 hf => ?_)
      refine z_aload_n 0 dX4_list_50 rfl rfl ?_
      refine z_dup dX4_list_51 rfl ?_
      refine z_gI (ci := 4) (k := 3) (C := RX4) (T := TX4) (N := 12) rfl inlX4 (by decide) mw_5_1 (fun _ _ _ _ h9 => h9) hf (by decide) rfl dX4_list_52  (fun v8 hf => ?_)
      refine z_iconst 1 1 dX4_list_55 (by decide) ?_
      refine z_iadd dX4_list_56 ?_
      refine z_pI (ci := 4) (k := 3) (C := RX4) (T := TX4) (N := 12) rfl inlX4 (by decide) mw_5_1 (fun _ _ _ _ h9 => h9) tyX4 tyX4_ok nmX4 rfl hf (Or.inl (by decide)) rfl rfl rfl dX4_list_57  (fun d9 hf => ?_)
      exact zb_X4_list_60 hE hk24 hf
set_option maxRecDepth 20000 in
theorem zb_X4_list_24 {N : Nat} {sh : Sh} {r : Int32 × Dt} {E : EV} (hE : TG E (some (.int r.1)) (sh, r.2))  : ∀ (n : Nat) (l0 : Nat) (l1 : Int64) (l3 : Int32) (d : Dt), f_X4_list_24 N sh n l0 l1 l3 d = some r → Z E yX4_list cX4_list 4 (some .int) 4 (sh, d) 24 [(0, .ref l0), (1, .long l1), (3, .int l3)] [] := by
  intro n
  induction n with
  | zero => intro l0 l1 l3 d hf; cases hf
  | succ n ih => intro l0 l1 l3 d hf; exact zg_X4_list_24 hE ih hf
set_option maxRecDepth 20000 in
theorem zm_X4_list {N : Nat} {sh : Sh} {d : Dt} {l0 : Nat} {r : Int32 × Dt} (hf : f_X4_list N sh l0 d = some r) : isO sh l0 4 ∧ ∀ (l : Launch) (G : GG), Mt l G yX4_list cX4_list 4 (some .int) 4 [.ref l0] (sh, d) (some (.int r.1)) (sh, r.2) := by
  have hf0 := hf
  unfold f_X4_list at hf
  split at hf
  · rename_i hO
    refine ⟨hO, fun l G => mt_of (Or.inl (by decide)) (Nat.le_of_ble_eq_true rfl) Le.rf (fun E hE => ?_)⟩
    show Z E yX4_list cX4_list 4 (some .int) 4 (sh, d) 0 [(0, .ref l0)] []
    refine z_aload_n 0 dX4_list_0 rfl rfl ?_
    refine z_gI (ci := 4) (k := 4) (C := RX4) (T := TX4) (N := 12) rfl inlX4 (by decide) mw_5_2 (fun _ _ _ _ h9 => h9) hf (by decide) rfl dX4_list_1  (fun v1 hf => ?_)
    refine z_if_eq 12 hf dX4_list_4 (by decide) (fun hf => ?_) (fun hf => ?_)
    · refine z_aload_n 0 dX4_list_12 rfl rfl ?_
      obtain ⟨v2, ev2, hf⟩ := ob hf
      refine z_cVl (ci := 4) (T := TX4) (N := 12) (As := []) (rest := []) (zm_X4_oddBits ev2).2 (zm_X4_oddBits ev2).1 (by decide) rfl (Or.inl rfl) mw_39_13 mw_39_14 mw_39_15 mw_2_3 mw_39_16 yk_X4_oddBits (by decide) (by decide) rfl (Nat.le_of_ble_eq_true rfl) rfl dX4_list_13 ?_
      refine z_lstore_n [(1, .long v2), (0, .ref l0)] dX4_list_16 rfl (by decide) rfl ?_
      refine z_aload_n 1 dX4_list_17 rfl rfl ?_
      refine z_iconst 0 0 dX4_list_18 (by decide) ?_
      refine z_pI (ci := 4) (k := 3) (C := RX4) (T := TX4) (N := 12) rfl inlX4 (by decide) mw_5_1 (fun _ _ _ _ h9 => h9) tyX4 tyX4_ok nmX4 rfl hf (Or.inl (by decide)) rfl rfl rfl dX4_list_19  (fun d3 hf => ?_)
      refine z_iconst 0 0 dX4_list_22 (by decide) ?_
      refine z_istore_n [(3, .int (0 : Int32)), (1, .long v2), (0, .ref l0)] dX4_list_23 rfl (by decide) rfl ?_
      refine z_lv [(0, .ref l0), (1, .long v2), (3, .int (0 : Int32))] [2, 1, 0] rfl ?_
      exact zb_X4_list_24 hE N _ _ _ _ hf
    · refine z_aload_n 0 dX4_list_7 rfl rfl ?_
      refine z_gI (ci := 4) (k := 3) (C := RX4) (T := TX4) (N := 12) rfl inlX4 (by decide) mw_5_1 (fun _ _ _ _ h9 => h9) hf (by decide) rfl dX4_list_8  (fun v4 hf => ?_)
      cases hf
      exact z_ireturn hE rfl dX4_list_11
  · cases hf
set_option maxRecDepth 20000 in
theorem zb_X1_hasOneWay_46 {N : Nat} {sh : Sh} {d : Dt} {r : Int32} {E : EV} (hE : TG E (some (.int r)) (sh, d))   (hf : f_X1_hasOneWay_46 N sh  d = some r) : Z E yX1_hasOneWay cX1_hasOneWay 2 (some .boolean) 2 (sh, d) 46 [] [] := by
  unfold f_X1_hasOneWay_46 at hf
  refine z_iconst 0 0 dX1_hasOneWay_46 (by decide) ?_
  cases hf
  exact z_zreturn hE rfl (by decide) dX1_hasOneWay_47
set_option maxRecDepth 20000 in
theorem zb_X1_hasOneWay_40 {N : Nat} {sh : Sh} {d : Dt} {k2 : Nat → Int32 → Option Int32} {r : Int32} {E : EV} (hE : TG E (some (.int r)) (sh, d)) (hk2 : ∀ (l0 : Nat) (l1 : Int32), k2 l0 l1 = some r → Z E yX1_hasOneWay cX1_hasOneWay 2 (some .boolean) 2 (sh, d) 2 [(0, .ref l0), (1, .int l1)] []) {l0 : Nat} {l1 : Int32} (hf : f_X1_hasOneWay_40 N sh k2 l0 l1 d = some r) : Z E yX1_hasOneWay cX1_hasOneWay 2 (some .boolean) 2 (sh, d) 40 [(0, .ref l0), (1, .int l1)] [] := by
  unfold f_X1_hasOneWay_40 at hf
  refine z_iinc [(1, .int (l1 + 1)), (0, .ref l0)] 1 (l1 + 1) dX1_hasOneWay_40 rfl rfl (by decide) rfl ?_
  refine z_goto 2 dX1_hasOneWay_43 (by decide) ?_
  refine z_lv [(0, .ref l0), (1, .int (l1 + 1))] [1, 0] rfl ?_
  exact hk2 _ _ hf
set_option maxRecDepth 20000 in
theorem zb_X1_hasOneWay_38 {N : Nat} {sh : Sh} {d : Dt} {r : Int32} {E : EV} (hE : TG E (some (.int r)) (sh, d))   (hf : f_X1_hasOneWay_38 N sh  d = some r) : Z E yX1_hasOneWay cX1_hasOneWay 2 (some .boolean) 2 (sh, d) 38 [] [] := by
  unfold f_X1_hasOneWay_38 at hf
  refine z_iconst 1 1 dX1_hasOneWay_38 (by decide) ?_
  cases hf
  exact z_zreturn hE rfl (by decide) dX1_hasOneWay_39
set_option maxRecDepth 20000 in
theorem zg_X1_hasOneWay_2 {N : Nat} {sh : Sh} {d : Dt} {r : Int32} {k2 : Nat → Int32 → Option Int32} {E : EV} (hE : TG E (some (.int r)) (sh, d))  (hk2 : ∀ (l0 : Nat) (l1 : Int32), k2 l0 l1 = some r → Z E yX1_hasOneWay cX1_hasOneWay 2 (some .boolean) 2 (sh, d) 2 [(0, .ref l0), (1, .int l1)] []) {l0 : Nat} {l1 : Int32} (hf : g_X1_hasOneWay_2 N sh k2 l0 l1 d = some r) : Z E yX1_hasOneWay cX1_hasOneWay 2 (some .boolean) 2 (sh, d) 2 [(0, .ref l0), (1, .int l1)] [] := by
  unfold g_X1_hasOneWay_2 at hf
  refine z_iload_n 1 dX1_hasOneWay_2 rfl rfl ?_
  refine z_aload_n 0 dX1_hasOneWay_3 rfl rfl ?_
  refine z_gP (ci := 1) (k := 1) (C := RX1) (T := TX1) (N := 8) rfl inlX1 (by decide) mw_3_14 (fun _ _ _ _ h9 => h9) hf (by decide) rfl dX1_hasOneWay_4  (fun v1 hf => ?_)
  refine z_gI (ci := 8) (k := 1) (C := RX8) (T := TX8) (N := 2) rfl inlX8 (by decide) mw_8_19 (fun _ _ _ _ h9 => h9) hf (by decide) rfl dX1_hasOneWay_7  (fun v2 hf => ?_)
  refine z_icmp_ge 46 hf dX1_hasOneWay_10 (by decide) (fun hf => ?_) (fun hf => ?_)
  · refine z_lv [] [] rfl ?_
    exact zb_X1_hasOneWay_46 hE hf
  · refine z_aload_n 0 dX1_hasOneWay_13 rfl rfl ?_
    refine z_gP (ci := 1) (k := 1) (C := RX1) (T := TX1) (N := 8) rfl inlX1 (by decide) mw_3_14 (fun _ _ _ _ h9 => h9) hf (by decide) rfl dX1_hasOneWay_14  (fun v3 hf => ?_)
    refine z_iload_n 1 dX1_hasOneWay_17 rfl rfl ?_
    refine z_iconst 4 4 dX1_hasOneWay_18 (by decide) ?_
    obtain ⟨v4, ev4, hf⟩ := ob hf
    refine z_cVi (ci := 8) (T := TX8) (N := 2) (As := [.int l1, .int (4 : Int32)]) (rest := []) (zm_X8_get ev4).2 (zm_X8_get ev4).1 (by decide) rfl (Or.inl rfl) mw_10_10 mw_10_11 mw_10_12 mw_3_13 mw_10_13 yk_X8_get (by decide) (by decide) rfl (Nat.le_of_ble_eq_true rfl) rfl dX1_hasOneWay_19 ?_
    refine z_if_ne 40 hf dX1_hasOneWay_22 (by decide) (fun hf => ?_) (fun hf => ?_)
    · exact zb_X1_hasOneWay_40 hE hk2 hf
    · refine z_aload_n 0 dX1_hasOneWay_25 rfl rfl ?_
      refine z_gP (ci := 1) (k := 1) (C := RX1) (T := TX1) (N := 8) rfl inlX1 (by decide) mw_3_14 (fun _ _ _ _ h9 => h9) hf (by decide) rfl dX1_hasOneWay_26  (fun v5 hf => ?_)
      refine z_iload_n 1 dX1_hasOneWay_29 rfl rfl ?_
      refine z_iconst 5 5 dX1_hasOneWay_30 (by decide) ?_
      obtain ⟨v6, ev6, hf⟩ := ob hf
      refine z_cVi (ci := 8) (T := TX8) (N := 2) (As := [.int l1, .int (5 : Int32)]) (rest := []) (zm_X8_get ev6).2 (zm_X8_get ev6).1 (by decide) rfl (Or.inl rfl) mw_10_10 mw_10_11 mw_10_12 mw_3_13 mw_10_13 yk_X8_get (by decide) (by decide) rfl (Nat.le_of_ble_eq_true rfl) rfl dX1_hasOneWay_31 ?_
      refine z_iconst 1 1 dX1_hasOneWay_34 (by decide) ?_
      refine z_icmp_ne 40 hf dX1_hasOneWay_35 (by decide) (fun hf => ?_) (fun hf => ?_)
      · exact zb_X1_hasOneWay_40 hE hk2 hf
      · refine z_lv [] [] rfl ?_
        exact zb_X1_hasOneWay_38 hE hf
set_option maxRecDepth 20000 in
theorem zb_X1_hasOneWay_2 {N : Nat} {sh : Sh} {d : Dt} {r : Int32} {E : EV} (hE : TG E (some (.int r)) (sh, d))  : ∀ (n : Nat) (l0 : Nat) (l1 : Int32), f_X1_hasOneWay_2 N sh d n l0 l1 = some r → Z E yX1_hasOneWay cX1_hasOneWay 2 (some .boolean) 2 (sh, d) 2 [(0, .ref l0), (1, .int l1)] [] := by
  intro n
  induction n with
  | zero => intro l0 l1 hf; cases hf
  | succ n ih => intro l0 l1 hf; exact zg_X1_hasOneWay_2 hE ih hf
set_option maxRecDepth 20000 in
theorem zm_X1_hasOneWay {N : Nat} {sh : Sh} {d : Dt} {l0 : Nat} {r : Int32} (hf : f_X1_hasOneWay N sh l0 d = some r) : isO sh l0 1 ∧ ∀ (l : Launch) (G : GG), Mt l G yX1_hasOneWay cX1_hasOneWay 2 (some .boolean) 2 [.ref l0] (sh, d) (some (.int r)) (sh, d) := by
  have hf0 := hf
  unfold f_X1_hasOneWay at hf
  split at hf
  · rename_i hO
    refine ⟨hO, fun l G => mt_of (Or.inl (by decide)) (Nat.le_of_ble_eq_true rfl) Le.rf (fun E hE => ?_)⟩
    show Z E yX1_hasOneWay cX1_hasOneWay 2 (some .boolean) 2 (sh, d) 0 [(0, .ref l0)] []
    refine z_iconst 0 0 dX1_hasOneWay_0 (by decide) ?_
    refine z_istore_n [(1, .int (0 : Int32)), (0, .ref l0)] dX1_hasOneWay_1 rfl (by decide) rfl ?_
    refine z_lv [(0, .ref l0), (1, .int (0 : Int32))] [1, 0] rfl ?_
    exact zb_X1_hasOneWay_2 hE N _ _ hf
  · cases hf
set_option maxRecDepth 20000 in
theorem zb_X4_leastByPartner_74 {N : Nat} {sh : Sh} {d : Dt} {r : Int32} {E : EV} (hE : TG E (some (.int r)) (sh, d))  {l4 : Int32} (hf : f_X4_leastByPartner_74 N sh l4 d = some r) : Z E yX4_leastByPartner cX4_leastByPartner 6 (some .int) 3 (sh, d) 74 [(4, .int l4)] [] := by
  unfold f_X4_leastByPartner_74 at hf
  refine z_iload 0 dX4_leastByPartner_74 rfl ?_
  cases hf
  exact z_ireturn hE rfl dX4_leastByPartner_76
set_option maxRecDepth 20000 in
theorem zb_X4_leastByPartner_68 {N : Nat} {sh : Sh} {d : Dt} {k21 : Nat → Int32 → Int32 → Int32 → Int32 → Option Int32} {r : Int32} {E : EV} (hE : TG E (some (.int r)) (sh, d)) (hk21 : ∀ (l0 : Nat) (l2 : Int32) (l3 : Int32) (l4 : Int32) (l5 : Int32), k21 l0 l2 l3 l4 l5 = some r → Z E yX4_leastByPartner cX4_leastByPartner 6 (some .int) 3 (sh, d) 21 [(0, .ref l0), (2, .int l2), (3, .int l3), (4, .int l4), (5, .int l5)] []) {l0 : Nat} {l2 : Int32} {l3 : Int32} {l4 : Int32} {l5 : Int32} (hf : f_X4_leastByPartner_68 N sh k21 l0 l2 l3 l4 l5 d = some r) : Z E yX4_leastByPartner cX4_leastByPartner 6 (some .int) 3 (sh, d) 68 [(0, .ref l0), (2, .int l2), (3, .int l3), (4, .int l4), (5, .int l5)] [] := by
  unfold f_X4_leastByPartner_68 at hf
  refine z_iinc [(5, .int (l5 + 1)), (0, .ref l0), (2, .int l2), (3, .int l3), (4, .int l4)] 4 (l5 + 1) dX4_leastByPartner_68 rfl rfl (by decide) rfl ?_
  refine z_goto 21 dX4_leastByPartner_71 (by decide) ?_
  refine z_lv [(0, .ref l0), (2, .int l2), (3, .int l3), (4, .int l4), (5, .int (l5 + 1))] [1, 2, 3, 4, 0] rfl ?_
  exact hk21 _ _ _ _ _ hf
set_option maxRecDepth 20000 in
theorem zg_X4_leastByPartner_21 {N : Nat} {sh : Sh} {d : Dt} {r : Int32} {k21 : Nat → Int32 → Int32 → Int32 → Int32 → Option Int32} {E : EV} (hE : TG E (some (.int r)) (sh, d))  (hk21 : ∀ (l0 : Nat) (l2 : Int32) (l3 : Int32) (l4 : Int32) (l5 : Int32), k21 l0 l2 l3 l4 l5 = some r → Z E yX4_leastByPartner cX4_leastByPartner 6 (some .int) 3 (sh, d) 21 [(0, .ref l0), (2, .int l2), (3, .int l3), (4, .int l4), (5, .int l5)] []) {l0 : Nat} {l2 : Int32} {l3 : Int32} {l4 : Int32} {l5 : Int32} (hf : g_X4_leastByPartner_21 N sh k21 l0 l2 l3 l4 l5 d = some r) : Z E yX4_leastByPartner cX4_leastByPartner 6 (some .int) 3 (sh, d) 21 [(0, .ref l0), (2, .int l2), (3, .int l3), (4, .int l4), (5, .int l5)] [] := by
  unfold g_X4_leastByPartner_21 at hf
  refine z_iload 4 dX4_leastByPartner_21 rfl ?_
  refine z_aload_n 0 dX4_leastByPartner_23 rfl rfl ?_
  refine z_gI (ci := 4) (k := 3) (C := RX4) (T := TX4) (N := 12) rfl inlX4 (by decide) mw_5_1 (fun _ _ _ _ h9 => h9) hf (by decide) rfl dX4_leastByPartner_24  (fun v2 hf => ?_)
  refine z_icmp_ge 74 hf dX4_leastByPartner_27 (by decide) (fun hf => ?_) (fun hf => ?_)
  · refine z_lv [(4, .int l4)] [3] rfl ?_
    exact zb_X4_leastByPartner_74 hE hf
  · refine z_iload_n 2 dX4_leastByPartner_30 rfl rfl ?_
    refine z_iload 4 dX4_leastByPartner_31 rfl ?_
    refine z_ishr dX4_leastByPartner_33 ?_
    refine z_iconst 1 1 dX4_leastByPartner_34 (by decide) ?_
    refine z_iand dX4_leastByPartner_35 ?_
    refine z_iconst 1 1 dX4_leastByPartner_36 (by decide) ?_
    refine z_icmp_ne 68 hf dX4_leastByPartner_37 (by decide) (fun hf => ?_) (fun hf => ?_)
    · exact zb_X4_leastByPartner_68 hE hk21 hf
    · refine z_iload 3 dX4_leastByPartner_40 rfl ?_
      refine z_aload_n 0 dX4_leastByPartner_42 rfl rfl ?_
      refine z_gP (ci := 4) (k := 5) (C := RX4) (T := TX4) (N := 12) rfl inlX4 (by decide) mw_5_4 (fun _ _ _ _ h9 => h9) hf (by decide) rfl dX4_leastByPartner_43  (fun v3 hf => ?_)
      refine z_iload_n 1 dX4_leastByPartner_46 rfl rfl ?_
      refine z_aR hf dX4_leastByPartner_47  (fun v4 hf => ?_)
      refine z_iload 4 dX4_leastByPartner_48 rfl ?_
      refine z_aI hf dX4_leastByPartner_50  (fun v5 hf => ?_)
      refine z_aload_n 0 dX4_leastByPartner_51 rfl rfl ?_
      refine z_gQ (ci := 4) (k := 6) (C := RX4) (T := TX4) (N := 12) rfl inlX4 (by decide) mw_5_5 (fun _ _ _ _ h9 => h9) hf (by decide) rfl dX4_leastByPartner_52  (fun v6 hf => ?_)
      refine z_iload_n 2 dX4_leastByPartner_55 rfl rfl ?_
      refine z_iconst 1 1 dX4_leastByPartner_56 (by decide) ?_
      refine z_iload 4 dX4_leastByPartner_57 rfl ?_
      refine z_ishl dX4_leastByPartner_59 ?_
      refine z_ixor dX4_leastByPartner_60 ?_
      refine z_aI hf dX4_leastByPartner_61  (fun v7 hf => ?_)
      refine z_iadd dX4_leastByPartner_62 ?_
      refine z_min mw_41_23 mw_9_20 mw_8_22 mw_9_21 (by decide) (Nat.le_of_ble_eq_true rfl) dX4_leastByPartner_63 ?_
      refine z_istore [(4, .int (o_min l4 (v5 + v7))), (0, .ref l0), (2, .int l2), (3, .int l3), (5, .int l5)] dX4_leastByPartner_66 (by decide) rfl ?_
      refine z_lv [(0, .ref l0), (2, .int l2), (3, .int l3), (4, .int (o_min l4 (v5 + v7))), (5, .int l5)] [1, 2, 3, 0, 4] rfl ?_
      exact zb_X4_leastByPartner_68 hE hk21 hf
set_option maxRecDepth 20000 in
theorem zb_X4_leastByPartner_21 {N : Nat} {sh : Sh} {d : Dt} {r : Int32} {E : EV} (hE : TG E (some (.int r)) (sh, d))  : ∀ (n : Nat) (l0 : Nat) (l2 : Int32) (l3 : Int32) (l4 : Int32) (l5 : Int32), f_X4_leastByPartner_21 N sh d n l0 l2 l3 l4 l5 = some r → Z E yX4_leastByPartner cX4_leastByPartner 6 (some .int) 3 (sh, d) 21 [(0, .ref l0), (2, .int l2), (3, .int l3), (4, .int l4), (5, .int l5)] [] := by
  intro n
  induction n with
  | zero => intro l0 l2 l3 l4 l5 hf; cases hf
  | succ n ih => intro l0 l2 l3 l4 l5 hf; exact zg_X4_leastByPartner_21 hE ih hf
set_option maxRecDepth 20000 in
theorem zm_X4_leastByPartner {N : Nat} {sh : Sh} {d : Dt} {l0 : Nat} {l1 : Int32} {r : Int32} (hf : f_X4_leastByPartner N sh l0 l1 d = some r) : isO sh l0 4 ∧ ∀ (l : Launch) (G : GG), Mt l G yX4_leastByPartner cX4_leastByPartner 6 (some .int) 3 [.ref l0, .int l1] (sh, d) (some (.int r)) (sh, d) := by
  have hf0 := hf
  unfold f_X4_leastByPartner at hf
  split at hf
  · rename_i hO
    refine ⟨hO, fun l G => mt_of (Or.inl (by decide)) (Nat.le_of_ble_eq_true rfl) Le.rf (fun E hE => ?_)⟩
    show Z E yX4_leastByPartner cX4_leastByPartner 6 (some .int) 3 (sh, d) 0 [(0, .ref l0), (1, .int l1)] []
    refine z_iload_n 1 dX4_leastByPartner_0 rfl rfl ?_
    refine z_i2l dX4_leastByPartner_1 ?_
    obtain ⟨v1, ev1, hf⟩ := ob hf
    refine z_cNi (As := [.long l1.toInt64]) (rest := []) (zm_X11_lowest ev1) (Or.inl rfl) (fun _ _ hK => hK.2.2.2.2.2.1) mw_17_2 mw_1_2 mw_17_3 yk_X11_lowest (by decide) (by decide) rfl (Nat.le_of_ble_eq_true rfl) rfl dX4_leastByPartner_2 ?_
    refine z_istore_n [(2, .int v1), (0, .ref l0), (1, .int l1)] dX4_leastByPartner_5 rfl (by decide) rfl ?_
    refine z_iload_n 2 dX4_leastByPartner_6 rfl rfl ?_
    refine z_iload_n 2 dX4_leastByPartner_7 rfl rfl ?_
    refine z_iconst 1 1 dX4_leastByPartner_8 (by decide) ?_
    refine z_isub dX4_leastByPartner_9 ?_
    refine z_iand dX4_leastByPartner_10 ?_
    refine z_istore_n [(3, .int (l1 &&& (l1 - (1 : Int32)))), (2, .int v1), (0, .ref l0), (1, .int l1)] dX4_leastByPartner_11 rfl (by decide) rfl ?_
    refine z_ldc mw_41_10 dX4_leastByPartner_12 ?_
    refine z_istore [(4, .int (1000000000 : Int32)), (3, .int (l1 &&& (l1 - (1 : Int32)))), (2, .int v1), (0, .ref l0), (1, .int l1)] dX4_leastByPartner_14 (by decide) rfl ?_
    refine z_iload_n 2 dX4_leastByPartner_16 rfl rfl ?_
    refine z_iconst 1 1 dX4_leastByPartner_17 (by decide) ?_
    refine z_iadd dX4_leastByPartner_18 ?_
    refine z_istore [(5, .int (v1 + (1 : Int32))), (4, .int (1000000000 : Int32)), (3, .int (l1 &&& (l1 - (1 : Int32)))), (2, .int v1), (0, .ref l0), (1, .int l1)] dX4_leastByPartner_19 (by decide) rfl ?_
    refine z_lv [(0, .ref l0), (2, .int v1), (3, .int (l1 &&& (l1 - (1 : Int32)))), (4, .int (1000000000 : Int32)), (5, .int (v1 + (1 : Int32)))] [4, 3, 2, 1, 0] rfl ?_
    exact zb_X4_leastByPartner_21 hE N _ _ _ _ _ hf
  · cases hf
