set_option maxRecDepth 20000 in
theorem zb_X1_setCell_21 {N : Nat} {sh : Sh} {r : Dt} {E : EV} (hE : TG E none (sh, r))   {d : Dt} (hf : f_X1_setCell_21 N sh  d = some r) : Z E yX1_setCell cX1_setCell 6 none 3 (sh, d) 21 [] [] := by
  unfold f_X1_setCell_21 at hf
  cases hf
  exact z_return hE rfl dX1_setCell_21
set_option maxRecDepth 20000 in
theorem zm_X1_setCell {N : Nat} {sh : Sh} {d : Dt} {l0 : Nat} {l1 : Int32} {l2 : Int32} {l3 : Int64} {r : Dt} (hf : f_X1_setCell N sh l0 l1 l2 l3 d = some r) : isO sh l0 1 ∧ ∀ (l : Launch) (G : GG), Mt l G yX1_setCell cX1_setCell 6 none 3 [.ref l0, .int l1, .int l2, .long l3] (sh, d) none (sh, r) := by
  have hf0 := hf
  unfold f_X1_setCell at hf
  refine ite_d hf (fun hO hf => ?_) (fun _ hf => ?_)
  · refine ⟨hO, fun l G => mt_of (Or.inl (by decide)) (Nat.le_of_ble_eq_true rfl) Le.rf (fun E hE => ?_)⟩
    show Z E yX1_setCell cX1_setCell 6 none 3 (sh, d) 0 [(0, .ref l0), (1, .int l1), (2, .int l2), (3, .long l3)] []
    refine z_aload_n 0 dX1_setCell_0 rfl rfl ?_
    refine z_iload_n 1 dX1_setCell_1 rfl rfl ?_
    refine z_iload_n 2 dX1_setCell_2 rfl rfl ?_
    obtain ⟨v1, ev1, hf⟩ := ob hf
    refine z_cVi (ci := 1) (T := TX1) (N := 8) (As := [.int l1, .int l2]) (rest := []) (zm_X1_cellAt ev1).2 (zm_X1_cellAt ev1).1 (by decide) rfl (Or.inl rfl) mw_21_0 mw_21_1 mw_21_2 mw_1_18 mw_21_3 yk_X1_cellAt (by decide) (by decide) rfl (Nat.le_of_ble_eq_true rfl) rfl dX1_setCell_3 ?_
    refine z_istore [(5, .int v1), (0, .ref l0), (1, .int l1), (2, .int l2), (3, .long l3)] dX1_setCell_6 (by decide) rfl ?_
    refine z_iload 0 dX1_setCell_8 rfl ?_
    refine z_if_lt 21 hf dX1_setCell_10 (by decide) (fun hf => ?_) (fun hf => ?_)
    · refine z_lv [] [] rfl ?_
      exact zb_X1_setCell_21 hE hf
    · refine z_aload_n 1 dX1_setCell_13 rfl rfl ?_
      refine z_gQ (ci := 1) (k := 7) (C := RX1) (T := TX1) (N := 8) rfl inlX1 (by decide) mw_3_21 (fun _ _ _ _ h9 => h9) hf (by decide) rfl dX1_setCell_14  (fun v2 hf => ?_)
      refine z_iload 0 dX1_setCell_17 rfl ?_
      refine z_lload_n 4 dX1_setCell_19 rfl rfl ?_
      refine z_sJ hf dX1_setCell_20  (fun d3 hf => ?_)
      refine z_lv [] [] rfl ?_
      exact zb_X1_setCell_21 hE hf
  · cases hf
set_option maxRecDepth 20000 in
theorem le_X11_note_27 {N : Nat} {r : Int32 × AS}  {l0 : Nat} {l1 : Int32} {l2 : Int32} {l3 : Int64} {s : AS} (hf : f_X11_note_27 N l0 l1 l2 l3 s = some r) : Le s r.2 := by
  unfold f_X11_note_27 at hf
  obtain ⟨v5, -, hf⟩ := ob hf
  obtain ⟨v6, -, hf⟩ := ob hf
  obtain ⟨v7, -, hf⟩ := ob hf
  cases hf
  exact Le.rf
set_option maxRecDepth 20000 in
theorem zb_X11_note_27 {N : Nat} {r : Int32 × AS} {E : EV} (hE : TG E (some (.int r.1)) r.2)   {l0 : Nat} {l1 : Int32} {l2 : Int32} {l3 : Int64} {s : AS} (hf : f_X11_note_27 N l0 l1 l2 l3 s = some r) : Z E yX11_note cX11_note 6 (some .int) 6 s 27 [(0, .ref l0), (1, .int l1), (2, .int l2), (3, .long l3)] [] := by
  unfold f_X11_note_27 at hf
  refine z_aload_n 0 dX11_note_27 rfl rfl ?_
  refine z_gP (ci := 11) (k := 1) (C := RX11) (T := TX11) (N := 14) rfl inlX11 (by decide) mw_1_19 (fun _ _ _ _ h9 => h9) hf (by decide) rfl dX11_note_28  (fun v5 hf => ?_)
  refine z_iload_n 1 dX11_note_31 rfl rfl ?_
  refine z_iload_n 2 dX11_note_32 rfl rfl ?_
  refine z_lload_n 3 dX11_note_33 rfl rfl ?_
  obtain ⟨v6, ev6, hf⟩ := ob hf
  refine z_cVv (ci := 1) (T := TX1) (N := 8) (As := [.int l1, .int l2, .long l3]) (rest := []) (zm_X1_setCell ev6).2 (zm_X1_setCell ev6).1 (by decide) rfl (Or.inl rfl) mw_22_23 mw_20_21 mw_20_22 mw_1_18 mw_20_23 yk_X1_setCell (by decide) (by decide) rfl (Nat.le_of_ble_eq_true rfl) rfl dX11_note_34 ?_
  refine z_aload_n 0 dX11_note_37 rfl rfl ?_
  refine z_iconst 1 1 dX11_note_38 (by decide) ?_
  obtain ⟨v7, ev7, hf⟩ := ob hf
  refine z_cVi (ci := 11) (T := TX11) (N := 14) (As := [.int (1 : Int32)]) (rest := []) (zm_X11_answer ev7).2 (zm_X11_answer ev7).1 (by decide) rfl (Or.inl rfl) mw_11_2 mw_11_3 mw_11_4 mw_1_2 mw_11_5 yk_X11_answer (by decide) (by decide) rfl (Nat.le_of_ble_eq_true rfl) rfl dX11_note_39 ?_
  cases hf
  exact z_ireturn hE rfl dX11_note_42
set_option maxRecDepth 20000 in
theorem lm_X11_note {N : Nat} {s : AS} {l0 : Nat} {l1 : Int32} {l2 : Int32} {l3 : Int64} {r : Int32 × AS} (hf : f_X11_note N l0 l1 l2 l3 s = some r) : Le s r.2 := by
  unfold f_X11_note at hf
  refine ite_c hf (fun hf => ?_) (fun hf => ?_)
  · skip
    obtain ⟨v1, -, hf⟩ := ob hf
    obtain ⟨v2, -, hf⟩ := ob hf
    refine ite_c hf (fun hf => ?_) (fun hf => ?_)
    · obtain ⟨v3, ev3, hf⟩ := ob hf
      refine Le.of (t := (s.1, s.2)) rfl ((lm_X11_change ev3).tr ?_)
      exact Le.via (le_X11_note_27 hf) rfl
    · obtain ⟨v4, -, hf⟩ := ob hf
      cases hf
      exact Le.rf
  · cases hf
set_option maxRecDepth 20000 in
theorem zm_X11_note {N : Nat} {s : AS} {l0 : Nat} {l1 : Int32} {l2 : Int32} {l3 : Int64} {r : Int32 × AS} (hf : f_X11_note N l0 l1 l2 l3 s = some r) : isO s.1 l0 11 ∧ ∀ (l : Launch) (G : GG), Mt l G yX11_note cX11_note 6 (some .int) 6 [.ref l0, .int l1, .int l2, .long l3] s (some (.int r.1)) r.2 := by
  have hf0 := hf
  unfold f_X11_note at hf
  refine ite_d hf (fun hO hf => ?_) (fun _ hf => ?_)
  · refine ⟨hO, fun l G => mt_of (Or.inl (by decide)) (Nat.le_of_ble_eq_true rfl) (lm_X11_note hf0) (fun E hE => ?_)⟩
    show Z E yX11_note cX11_note 6 (some .int) 6 s 0 [(0, .ref l0), (1, .int l1), (2, .int l2), (3, .long l3)] []
    refine z_aload_n 0 dX11_note_0 rfl rfl ?_
    refine z_gP (ci := 11) (k := 1) (C := RX11) (T := TX11) (N := 14) rfl inlX11 (by decide) mw_1_19 (fun _ _ _ _ h9 => h9) hf (by decide) rfl dX11_note_1  (fun v1 hf => ?_)
    refine z_iload_n 1 dX11_note_4 rfl rfl ?_
    refine z_iload_n 2 dX11_note_5 rfl rfl ?_
    obtain ⟨v2, ev2, hf⟩ := ob hf
    refine z_cVi (ci := 1) (T := TX1) (N := 8) (As := [.int l1, .int l2]) (rest := []) (zm_X1_whyUnread ev2).2 (zm_X1_whyUnread ev2).1 (by decide) rfl (Or.inl rfl) mw_22_18 mw_22_19 mw_22_20 mw_1_18 mw_22_21 yk_X1_whyUnread (by decide) (by decide) rfl (Nat.le_of_ble_eq_true rfl) rfl dX11_note_6 ?_
    refine z_istore [(5, .int v2), (0, .ref l0), (1, .int l1), (2, .int l2), (3, .long l3)] dX11_note_9 (by decide) rfl ?_
    refine z_iload 0 dX11_note_11 rfl ?_
    refine z_if_eq 23 hf dX11_note_13 (by decide) (fun hf => ?_) (fun hf => ?_)
    · refine z_aload_n 1 dX11_note_23 rfl rfl ?_
      obtain ⟨v3, ev3, hf⟩ := ob hf
      refine z_cVv (ci := 11) (T := TX11) (N := 14) (As := []) (rest := []) (zm_X11_change ev3).2 (zm_X11_change ev3).1 (by decide) rfl (Or.inr (tg_le hE (le_X11_note_27 hf))) mw_8_7 mw_8_8 mw_8_9 mw_1_2 mw_8_10 yk_X11_change (by decide) (by decide) rfl (Nat.le_of_ble_eq_true rfl) rfl dX11_note_24 ?_
      refine z_lv [(0, .ref l0), (1, .int l1), (2, .int l2), (3, .long l3)] [1, 2, 3, 4] rfl ?_
      exact zb_X11_note_27 hE hf
    · refine z_aload_n 1 dX11_note_16 rfl rfl ?_
      refine z_iload 0 dX11_note_17 rfl ?_
      obtain ⟨v4, ev4, hf⟩ := ob hf
      refine z_cVi (ci := 11) (T := TX11) (N := 14) (As := [.int v2]) (rest := []) (zm_X11_refuse ev4).2 (zm_X11_refuse ev4).1 (by decide) rfl (Or.inl rfl) mw_7_22 mw_7_23 mw_8_0 mw_1_2 mw_8_1 yk_X11_refuse (by decide) (by decide) rfl (Nat.le_of_ble_eq_true rfl) rfl dX11_note_19 ?_
      cases hf
      exact z_ireturn hE rfl dX11_note_22
  · cases hf
set_option maxRecDepth 20000 in
theorem le_X11_none_23 {N : Nat} {r : Int32 × AS}  {l0 : Nat} {s : AS} (hf : f_X11_none_23 N l0 s = some r) : Le s r.2 := by
  unfold f_X11_none_23 at hf
  obtain ⟨v4, -, hf⟩ := ob hf
  cases hf
  exact Le.rf
set_option maxRecDepth 20000 in
theorem zb_X11_none_23 {N : Nat} {r : Int32 × AS} {E : EV} (hE : TG E (some (.int r.1)) r.2)   {l0 : Nat} {s : AS} (hf : f_X11_none_23 N l0 s = some r) : Z E yX11_none cX11_none 4 (some .int) 7 s 23 [(0, .ref l0)] [] := by
  unfold f_X11_none_23 at hf
  refine z_aload_n 0 dX11_none_23 rfl rfl ?_
  refine z_bipush (-2) (-2) dX11_none_24 (by decide) ?_
  obtain ⟨v4, ev4, hf⟩ := ob hf
  refine z_cVi (ci := 11) (T := TX11) (N := 14) (As := [.int (-2 : Int32)]) (rest := []) (zm_X11_refuse ev4).2 (zm_X11_refuse ev4).1 (by decide) rfl (Or.inl rfl) mw_7_22 mw_7_23 mw_8_0 mw_1_2 mw_8_1 yk_X11_refuse (by decide) (by decide) rfl (Nat.le_of_ble_eq_true rfl) rfl dX11_none_26 ?_
  cases hf
  exact z_ireturn hE rfl dX11_none_29
set_option maxRecDepth 20000 in
theorem le_X11_none_49 {N : Nat} {r : Int32 × AS}  {t0 : Int32} {s : AS} (hf : f_X11_none_49 N t0 s = some r) : Le s r.2 := by
  unfold f_X11_none_49 at hf
  cases hf
  exact Le.rf
set_option maxRecDepth 20000 in
theorem zb_X11_none_49 {N : Nat} {r : Int32 × AS} {E : EV} (hE : TG E (some (.int r.1)) r.2)   {t0 : Int32} {s : AS} (hf : f_X11_none_49 N t0 s = some r) : Z E yX11_none cX11_none 4 (some .int) 7 s 49 [] [.int t0] := by
  unfold f_X11_none_49 at hf
  cases hf
  exact z_ireturn hE rfl dX11_none_49
set_option maxRecDepth 20000 in
theorem le_X11_none_46 {N : Nat} {r : Int32 × AS}  {t0 : Nat} {t1 : Int32} {t2 : Int32} {t3 : Int64} {s : AS} (hf : f_X11_none_46 N t0 t1 t2 t3 s = some r) : Le s r.2 := by
  unfold f_X11_none_46 at hf
  obtain ⟨v5, ev5, hf⟩ := ob hf
  refine Le.of (t := (s.1, s.2)) rfl ((lm_X11_note ev5).tr ?_)
  exact Le.via (le_X11_none_49 hf) rfl
set_option maxRecDepth 20000 in
theorem zb_X11_none_46 {N : Nat} {r : Int32 × AS} {E : EV} (hE : TG E (some (.int r.1)) r.2)   {t0 : Nat} {t1 : Int32} {t2 : Int32} {t3 : Int64} {s : AS} (hf : f_X11_none_46 N t0 t1 t2 t3 s = some r) : Z E yX11_none cX11_none 4 (some .int) 7 s 46 [] [.long t3, .int t2, .int t1, .ref t0] := by
  unfold f_X11_none_46 at hf
  obtain ⟨v5, ev5, hf⟩ := ob hf
  refine z_cVi (ci := 11) (T := TX11) (N := 14) (As := [.int t1, .int t2, .long t3]) (rest := []) (zm_X11_note ev5).2 (zm_X11_note ev5).1 (by decide) rfl (Or.inr (tg_le hE (le_X11_none_49 hf))) mw_22_14 mw_22_15 mw_22_16 mw_1_2 mw_22_17 yk_X11_note (by decide) (by decide) rfl (Nat.le_of_ble_eq_true rfl) rfl dX11_none_46 ?_
  exact zb_X11_none_49 hE hf
set_option maxRecDepth 20000 in
theorem lm_X11_none {N : Nat} {s : AS} {l0 : Nat} {l1 : Int32} {l2 : Int32} {l3 : Int32} {r : Int32 × AS} (hf : f_X11_none N l0 l1 l2 l3 s = some r) : Le s r.2 := by
  unfold f_X11_none at hf
  refine ite_c hf (fun hf => ?_) (fun hf => ?_)
  · skip
    obtain ⟨v1, -, hf⟩ := ob hf
    obtain ⟨v2, -, hf⟩ := ob hf
    obtain ⟨v3, -, hf⟩ := ob hf
    refine ite_c hf (fun hf => ?_) (fun hf => ?_)
    · exact Le.via (le_X11_none_23 hf) rfl
    · refine ite_c hf (fun hf => ?_) (fun hf => ?_)
      · exact Le.via (le_X11_none_23 hf) rfl
      · refine ite_c hf (fun hf => ?_) (fun hf => ?_)
        · refine ite_c hf (fun hf => ?_) (fun hf => ?_)
          · exact Le.via (le_X11_none_46 hf) rfl
          · exact Le.via (le_X11_none_46 hf) rfl
        · exact Le.via (le_X11_none_23 hf) rfl
  · cases hf
set_option maxRecDepth 20000 in
theorem zm_X11_none {N : Nat} {s : AS} {l0 : Nat} {l1 : Int32} {l2 : Int32} {l3 : Int32} {r : Int32 × AS} (hf : f_X11_none N l0 l1 l2 l3 s = some r) : isO s.1 l0 11 ∧ ∀ (l : Launch) (G : GG), Mt l G yX11_none cX11_none 4 (some .int) 7 [.ref l0, .int l1, .int l2, .int l3] s (some (.int r.1)) r.2 := by
  have hf0 := hf
  unfold f_X11_none at hf
  refine ite_d hf (fun hO hf => ?_) (fun _ hf => ?_)
  · refine ⟨hO, fun l G => mt_of (Or.inl (by decide)) (Nat.le_of_ble_eq_true rfl) (lm_X11_none hf0) (fun E hE => ?_)⟩
    show Z E yX11_none cX11_none 4 (some .int) 7 s 0 [(0, .ref l0), (1, .int l1), (2, .int l2), (3, .int l3)] []
    refine z_aload_n 0 dX11_none_0 rfl rfl ?_
    refine z_gP (ci := 11) (k := 1) (C := RX11) (T := TX11) (N := 14) rfl inlX11 (by decide) mw_1_19 (fun _ _ _ _ h9 => h9) hf (by decide) rfl dX11_none_1  (fun v1 hf => ?_)
    refine z_gP (ci := 1) (k := 2) (C := RX1) (T := TX1) (N := 8) rfl inlX1 (by decide) mw_19_21 (fun _ _ _ _ h9 => h9) hf (by decide) rfl dX11_none_4  (fun v2 hf => ?_)
    refine z_iload_n 1 dX11_none_7 rfl rfl ?_
    obtain ⟨v3, ev3, hf⟩ := ob hf
    refine z_cVi (ci := 8) (T := TX8) (N := 2) (As := [.int l1]) (rest := []) (zm_X8_has ev3).2 (zm_X8_has ev3).1 (by decide) rfl (Or.inl rfl) mw_13_22 mw_13_23 mw_14_0 mw_3_13 mw_14_1 yk_X8_has (by decide) (by decide) rfl (Nat.le_of_ble_eq_true rfl) rfl dX11_none_8 ?_
    refine z_if_eq 23 hf dX11_none_11 (by decide) (fun hf => ?_) (fun hf => ?_)
    · refine z_lv [(0, .ref l0)] [0] rfl ?_
      exact zb_X11_none_23 hE hf
    · refine z_iload_n 3 dX11_none_14 rfl rfl ?_
      refine z_if_lt 23 hf dX11_none_15 (by decide) (fun hf => ?_) (fun hf => ?_)
      · refine z_lv [(0, .ref l0)] [0] rfl ?_
        exact zb_X11_none_23 hE hf
      · refine z_iload_n 3 dX11_none_18 rfl rfl ?_
        refine z_iconst 1 1 dX11_none_19 (by decide) ?_
        refine z_icmp_le 30 hf dX11_none_20 (by decide) (fun hf => ?_) (fun hf => ?_)
        · refine z_aload_n 0 dX11_none_30 rfl rfl ?_
          refine z_iload_n 1 dX11_none_31 rfl rfl ?_
          refine z_iload_n 2 dX11_none_32 rfl rfl ?_
          refine z_iload_n 3 dX11_none_33 rfl rfl ?_
          refine z_if_ne 43 hf dX11_none_34 (by decide) (fun hf => ?_) (fun hf => ?_)
          · refine z_ldc2 mw_23_17 dX11_none_43 ?_
            refine z_lv [] [] rfl ?_
            exact zb_X11_none_46 hE hf
          · refine z_ldc2 mw_23_16 dX11_none_37 ?_
            refine z_goto 46 dX11_none_40 (by decide) ?_
            refine z_lv [] [] rfl ?_
            exact zb_X11_none_46 hE hf
        · refine z_lv [(0, .ref l0)] [0] rfl ?_
          exact zb_X11_none_23 hE hf
  · cases hf
set_option maxRecDepth 20000 in
theorem zb_X4_oddAt_22 {N : Nat} {sh : Sh} {d : Dt} {r : Int32} {E : EV} (hE : TG E (some (.int r)) (sh, d))  {t0 : Int32} (hf : f_X4_oddAt_22 N sh t0 d = some r) : Z E yX4_oddAt cX4_oddAt 2 (some .int) 1 (sh, d) 22 [] [.int t0] := by
  unfold f_X4_oddAt_22 at hf
  cases hf
  exact z_ireturn hE rfl dX4_oddAt_22
set_option maxRecDepth 20000 in
theorem zb_X4_oddAt_21 {N : Nat} {sh : Sh} {d : Dt} {r : Int32} {E : EV} (hE : TG E (some (.int r)) (sh, d))   (hf : f_X4_oddAt_21 N sh  d = some r) : Z E yX4_oddAt cX4_oddAt 2 (some .int) 1 (sh, d) 21 [] [] := by
  unfold f_X4_oddAt_21 at hf
  refine z_iconst (-1) (-1) dX4_oddAt_21 (by decide) ?_
  exact zb_X4_oddAt_22 hE hf
set_option maxRecDepth 20000 in
theorem zm_X4_oddAt {N : Nat} {sh : Sh} {d : Dt} {l0 : Nat} {l1 : Int32} {r : Int32} (hf : f_X4_oddAt N sh l0 l1 d = some r) : isO sh l0 4 ∧ ∀ (l : Launch) (G : GG), Mt l G yX4_oddAt cX4_oddAt 2 (some .int) 1 [.ref l0, .int l1] (sh, d) (some (.int r)) (sh, d) := by
  have hf0 := hf
  unfold f_X4_oddAt at hf
  refine ite_d hf (fun hO hf => ?_) (fun _ hf => ?_)
  · refine ⟨hO, fun l G => mt_of (Or.inl (by decide)) (Nat.le_of_ble_eq_true rfl) Le.rf (fun E hE => ?_)⟩
    show Z E yX4_oddAt cX4_oddAt 2 (some .int) 1 (sh, d) 0 [(0, .ref l0), (1, .int l1)] []
    refine z_iload_n 1 dX4_oddAt_0 rfl rfl ?_
    refine z_if_lt 21 hf dX4_oddAt_1 (by decide) (fun hf => ?_) (fun hf => ?_)
    · refine z_lv [] [] rfl ?_
      exact zb_X4_oddAt_21 hE hf
    · refine z_iload_n 1 dX4_oddAt_4 rfl rfl ?_
      refine z_aload_n 0 dX4_oddAt_5 rfl rfl ?_
      refine z_gI (ci := 4) (k := 3) (C := RX4) (T := TX4) (N := 12) rfl inlX4 (by decide) mw_5_1 (fun _ _ _ _ h9 => h9) hf (by decide) rfl dX4_oddAt_6  (fun v1 hf => ?_)
      refine z_icmp_ge 21 hf dX4_oddAt_9 (by decide) (fun hf => ?_) (fun hf => ?_)
      · refine z_lv [] [] rfl ?_
        exact zb_X4_oddAt_21 hE hf
      · refine z_aload_n 0 dX4_oddAt_12 rfl rfl ?_
        refine z_gP (ci := 4) (k := 2) (C := RX4) (T := TX4) (N := 12) rfl inlX4 (by decide) mw_5_0 (fun _ _ _ _ h9 => h9) hf (by decide) rfl dX4_oddAt_13  (fun v2 hf => ?_)
        refine z_iload_n 1 dX4_oddAt_16 rfl rfl ?_
        refine z_aI hf dX4_oddAt_17  (fun v3 hf => ?_)
        refine z_goto 22 dX4_oddAt_18 (by decide) ?_
        refine z_lv [] [] rfl ?_
        exact zb_X4_oddAt_22 hE hf
  · cases hf
set_option maxRecDepth 20000 in
theorem zm_X11_odd {N : Nat} {sh : Sh} {d : Dt} {l0 : Nat} {l1 : Int32} {r : Int32 × Dt} (hf : f_X11_odd N sh l0 l1 d = some r) : isO sh l0 11 ∧ ∀ (l : Launch) (G : GG), Mt l G yX11_odd cX11_odd 2 (some .int) 5 [.ref l0, .int l1] (sh, d) (some (.int r.1)) (sh, r.2) := by
  have hf0 := hf
  unfold f_X11_odd at hf
  refine ite_d hf (fun hO hf => ?_) (fun _ hf => ?_)
  · refine ⟨hO, fun l G => mt_of (Or.inl (by decide)) (Nat.le_of_ble_eq_true rfl) Le.rf (fun E hE => ?_)⟩
    show Z E yX11_odd cX11_odd 2 (some .int) 5 (sh, d) 0 [(0, .ref l0), (1, .int l1)] []
    refine z_aload_n 0 dX11_odd_0 rfl rfl ?_
    refine z_gP (ci := 11) (k := 4) (C := RX11) (T := TX11) (N := 14) rfl inlX11 (by decide) mw_2_4 (fun _ _ _ _ h9 => h9) hf (by decide) rfl dX11_odd_1  (fun v1 hf => ?_)
    obtain ⟨v2, ev2, hf⟩ := ob hf
    refine z_cVi (ci := 4) (T := TX4) (N := 12) (As := []) (rest := []) (zm_X4_list ev2).2 (zm_X4_list ev2).1 (by decide) rfl (Or.inl rfl) mw_39_9 mw_39_10 mw_39_11 mw_2_3 mw_39_12 yk_X4_list (by decide) (by decide) rfl (Nat.le_of_ble_eq_true rfl) rfl dX11_odd_4 ?_
    refine z_pop dX11_odd_7 rfl ?_
    refine z_aload_n 0 dX11_odd_8 rfl rfl ?_
    refine z_aload_n 0 dX11_odd_9 rfl rfl ?_
    refine z_gP (ci := 11) (k := 4) (C := RX11) (T := TX11) (N := 14) rfl inlX11 (by decide) mw_2_4 (fun _ _ _ _ h9 => h9) hf (by decide) rfl dX11_odd_10  (fun v3 hf => ?_)
    refine z_iload_n 1 dX11_odd_13 rfl rfl ?_
    obtain ⟨v4, ev4, hf⟩ := ob hf
    refine z_cVi (ci := 4) (T := TX4) (N := 12) (As := [.int l1]) (rest := [.ref l0]) (zm_X4_oddAt ev4).2 (zm_X4_oddAt ev4).1 (by decide) rfl (Or.inl rfl) mw_40_0 mw_40_1 mw_40_2 mw_2_3 mw_40_3 yk_X4_oddAt (by decide) (by decide) rfl (Nat.le_of_ble_eq_true rfl) rfl dX11_odd_14 ?_
    obtain ⟨v5, ev5, hf⟩ := ob hf
    refine z_cVi (ci := 11) (T := TX11) (N := 14) (As := [.int v4]) (rest := []) (zm_X11_answer ev5).2 (zm_X11_answer ev5).1 (by decide) rfl (Or.inl rfl) mw_11_2 mw_11_3 mw_11_4 mw_1_2 mw_11_5 yk_X11_answer (by decide) (by decide) rfl (Nat.le_of_ble_eq_true rfl) rfl dX11_odd_17 ?_
    cases hf
    exact z_ireturn hE rfl dX11_odd_20
  · cases hf
set_option maxRecDepth 20000 in
theorem le_X11_oneWay_15 {N : Nat} {r : Int32 × AS}  {t0 : Int32} {s : AS} (hf : f_X11_oneWay_15 N t0 s = some r) : Le s r.2 := by
  unfold f_X11_oneWay_15 at hf
  cases hf
  exact Le.rf
set_option maxRecDepth 20000 in
theorem zb_X11_oneWay_15 {N : Nat} {r : Int32 × AS} {E : EV} (hE : TG E (some (.int r.1)) r.2)   {t0 : Int32} {s : AS} (hf : f_X11_oneWay_15 N t0 s = some r) : Z E yX11_oneWay cX11_oneWay 3 (some .int) 7 s 15 [] [.int t0] := by
  unfold f_X11_oneWay_15 at hf
  cases hf
  exact z_ireturn hE rfl dX11_oneWay_15
set_option maxRecDepth 20000 in
theorem le_X11_oneWay_12 {N : Nat} {r : Int32 × AS}  {t0 : Nat} {t1 : Int32} {t2 : Int32} {t3 : Int32} {s : AS} (hf : f_X11_oneWay_12 N t0 t1 t2 t3 s = some r) : Le s r.2 := by
  unfold f_X11_oneWay_12 at hf
  obtain ⟨v1, ev1, hf⟩ := ob hf
  refine Le.of (t := (s.1, s.2)) rfl ((lm_X11_become ev1).tr ?_)
  exact Le.via (le_X11_oneWay_15 hf) rfl
set_option maxRecDepth 20000 in
theorem zb_X11_oneWay_12 {N : Nat} {r : Int32 × AS} {E : EV} (hE : TG E (some (.int r.1)) r.2)   {t0 : Nat} {t1 : Int32} {t2 : Int32} {t3 : Int32} {s : AS} (hf : f_X11_oneWay_12 N t0 t1 t2 t3 s = some r) : Z E yX11_oneWay cX11_oneWay 3 (some .int) 7 s 12 [] [.int t3, .int t2, .int t1, .ref t0] := by
  unfold f_X11_oneWay_12 at hf
  obtain ⟨v1, ev1, hf⟩ := ob hf
  refine z_cVi (ci := 11) (T := TX11) (N := 14) (As := [.int t1, .int t2, .int t3]) (rest := []) (zm_X11_become ev1).2 (zm_X11_become ev1).1 (by decide) rfl (Or.inr (tg_le hE (le_X11_oneWay_15 hf))) mw_13_18 mw_13_19 mw_13_20 mw_1_2 mw_13_21 yk_X11_become (by decide) (by decide) rfl (Nat.le_of_ble_eq_true rfl) rfl dX11_oneWay_12 ?_
  exact zb_X11_oneWay_15 hE hf
set_option maxRecDepth 20000 in
theorem lm_X11_oneWay {N : Nat} {s : AS} {l0 : Nat} {l1 : Int32} {l2 : Int32} {r : Int32 × AS} (hf : f_X11_oneWay N l0 l1 l2 s = some r) : Le s r.2 := by
  unfold f_X11_oneWay at hf
  refine ite_c hf (fun hf => ?_) (fun hf => ?_)
  · skip
    refine ite_c hf (fun hf => ?_) (fun hf => ?_)
    · exact Le.via (le_X11_oneWay_12 hf) rfl
    · exact Le.via (le_X11_oneWay_12 hf) rfl
  · cases hf
set_option maxRecDepth 20000 in
theorem zm_X11_oneWay {N : Nat} {s : AS} {l0 : Nat} {l1 : Int32} {l2 : Int32} {r : Int32 × AS} (hf : f_X11_oneWay N l0 l1 l2 s = some r) : isO s.1 l0 11 ∧ ∀ (l : Launch) (G : GG), Mt l G yX11_oneWay cX11_oneWay 3 (some .int) 7 [.ref l0, .int l1, .int l2] s (some (.int r.1)) r.2 := by
  have hf0 := hf
  unfold f_X11_oneWay at hf
  refine ite_d hf (fun hO hf => ?_) (fun _ hf => ?_)
  · refine ⟨hO, fun l G => mt_of (Or.inl (by decide)) (Nat.le_of_ble_eq_true rfl) (lm_X11_oneWay hf0) (fun E hE => ?_)⟩
    show Z E yX11_oneWay cX11_oneWay 3 (some .int) 7 s 0 [(0, .ref l0), (1, .int l1), (2, .int l2)] []
    refine z_aload_n 0 dX11_oneWay_0 rfl rfl ?_
    refine z_iload_n 1 dX11_oneWay_1 rfl rfl ?_
    refine z_iconst 5 5 dX11_oneWay_2 (by decide) ?_
    refine z_iload_n 2 dX11_oneWay_3 rfl rfl ?_
    refine z_if_eq 11 hf dX11_oneWay_4 (by decide) (fun hf => ?_) (fun hf => ?_)
    · refine z_iconst 0 0 dX11_oneWay_11 (by decide) ?_
      refine z_lv [] [] rfl ?_
      exact zb_X11_oneWay_12 hE hf
    · refine z_iconst 1 1 dX11_oneWay_7 (by decide) ?_
      refine z_goto 12 dX11_oneWay_8 (by decide) ?_
      refine z_lv [] [] rfl ?_
      exact zb_X11_oneWay_12 hE hf
  · cases hf
set_option maxRecDepth 20000 in
theorem zb_X1_dropPart_35 {N : Nat} {sh : Sh} {r : Dt} {E : EV} (hE : TG E none (sh, r))   {d : Dt} (hf : f_X1_dropPart_35 N sh  d = some r) : Z E yX1_dropPart cX1_dropPart 3 none 2 (sh, d) 35 [] [] := by
  unfold f_X1_dropPart_35 at hf
  cases hf
  exact z_return hE rfl dX1_dropPart_35
set_option maxRecDepth 20000 in
theorem zb_X1_dropPart_29 {N : Nat} {sh : Sh} {k2 : Nat → Int32 → Int32 → Dt → Option Dt} {r : Dt} {E : EV} (hE : TG E none (sh, r)) (hk2 : ∀ (l0 : Nat) (l1 : Int32) (l2 : Int32) (d : Dt), k2 l0 l1 l2 d = some r → Z E yX1_dropPart cX1_dropPart 3 none 2 (sh, d) 2 [(0, .ref l0), (1, .int l1), (2, .int l2)] []) {l0 : Nat} {l1 : Int32} {l2 : Int32} {d : Dt} (hf : f_X1_dropPart_29 N sh k2 l0 l1 l2 d = some r) : Z E yX1_dropPart cX1_dropPart 3 none 2 (sh, d) 29 [(0, .ref l0), (1, .int l1), (2, .int l2)] [] := by
  unfold f_X1_dropPart_29 at hf
  refine z_iinc [(2, .int (l2 + 1)), (0, .ref l0), (1, .int l1)] 2 (l2 + 1) dX1_dropPart_29 rfl rfl (by decide) rfl ?_
  refine z_goto 2 dX1_dropPart_32 (by decide) ?_
  refine z_lv [(0, .ref l0), (1, .int l1), (2, .int (l2 + 1))] [1, 2, 0] rfl ?_
  exact hk2 _ _ _ _ hf
set_option maxRecDepth 20000 in
theorem zg_X1_dropPart_2 {N : Nat} {sh : Sh} {r : Dt} {k2 : Nat → Int32 → Int32 → Dt → Option Dt} {E : EV} (hE : TG E none (sh, r))  (hk2 : ∀ (l0 : Nat) (l1 : Int32) (l2 : Int32) (d : Dt), k2 l0 l1 l2 d = some r → Z E yX1_dropPart cX1_dropPart 3 none 2 (sh, d) 2 [(0, .ref l0), (1, .int l1), (2, .int l2)] []) {l0 : Nat} {l1 : Int32} {l2 : Int32} {d : Dt} (hf : g_X1_dropPart_2 N sh k2 l0 l1 l2 d = some r) : Z E yX1_dropPart cX1_dropPart 3 none 2 (sh, d) 2 [(0, .ref l0), (1, .int l1), (2, .int l2)] [] := by
  unfold g_X1_dropPart_2 at hf
  refine z_iload_n 2 dX1_dropPart_2 rfl rfl ?_
  refine z_bipush 9 9 dX1_dropPart_3 (by decide) ?_
  refine z_icmp_ge 35 hf dX1_dropPart_5 (by decide) (fun hf => ?_) (fun hf => ?_)
  · refine z_lv [] [] rfl ?_
    exact zb_X1_dropPart_35 hE hf
  · refine z_iload_n 2 dX1_dropPart_8 rfl rfl ?_
    refine z_iconst 5 5 dX1_dropPart_9 (by decide) ?_
    refine z_icmp_eq 29 hf dX1_dropPart_10 (by decide) (fun hf => ?_) (fun hf => ?_)
    · exact zb_X1_dropPart_29 hE hk2 hf
    · refine z_iload_n 2 dX1_dropPart_13 rfl rfl ?_
      refine z_bipush 6 6 dX1_dropPart_14 (by decide) ?_
      refine z_icmp_eq 29 hf dX1_dropPart_16 (by decide) (fun hf => ?_) (fun hf => ?_)
      · exact zb_X1_dropPart_29 hE hk2 hf
      · refine z_aload_n 0 dX1_dropPart_19 rfl rfl ?_
        refine z_gP (ci := 1) (k := 3) (C := RX1) (T := TX1) (N := 8) rfl inlX1 (by decide) mw_3_16 (fun _ _ _ _ h9 => h9) hf (by decide) rfl dX1_dropPart_20  (fun v1 hf => ?_)
        refine z_iload_n 1 dX1_dropPart_23 rfl rfl ?_
        refine z_iload_n 2 dX1_dropPart_24 rfl rfl ?_
        refine z_iconst 0 0 dX1_dropPart_25 (by decide) ?_
        obtain ⟨v2, ev2, hf⟩ := ob hf
        refine z_cVv (ci := 8) (T := TX8) (N := 2) (As := [.int l1, .int l2, .int (0 : Int32)]) (rest := []) (zm_X8_put ev2).2 (zm_X8_put ev2).1 (by decide) rfl (Or.inl rfl) mw_20_3 mw_12_23 mw_13_0 mw_3_13 mw_13_1 yk_X8_put (by decide) (by decide) rfl (Nat.le_of_ble_eq_true rfl) rfl dX1_dropPart_26 ?_
        exact zb_X1_dropPart_29 hE hk2 hf
set_option maxRecDepth 20000 in
theorem zb_X1_dropPart_2 {N : Nat} {sh : Sh} {r : Dt} {E : EV} (hE : TG E none (sh, r))  : ∀ (n : Nat) (l0 : Nat) (l1 : Int32) (l2 : Int32) (d : Dt), f_X1_dropPart_2 N sh n l0 l1 l2 d = some r → Z E yX1_dropPart cX1_dropPart 3 none 2 (sh, d) 2 [(0, .ref l0), (1, .int l1), (2, .int l2)] [] := by
  intro n
  induction n with
  | zero => intro l0 l1 l2 d hf; cases hf
  | succ n ih => intro l0 l1 l2 d hf; exact zg_X1_dropPart_2 hE ih hf
set_option maxRecDepth 20000 in
theorem zm_X1_dropPart {N : Nat} {sh : Sh} {d : Dt} {l0 : Nat} {l1 : Int32} {r : Dt} (hf : f_X1_dropPart N sh l0 l1 d = some r) : isO sh l0 1 ∧ ∀ (l : Launch) (G : GG), Mt l G yX1_dropPart cX1_dropPart 3 none 2 [.ref l0, .int l1] (sh, d) none (sh, r) := by
  have hf0 := hf
  unfold f_X1_dropPart at hf
  refine ite_d hf (fun hO hf => ?_) (fun _ hf => ?_)
  · refine ⟨hO, fun l G => mt_of (Or.inl (by decide)) (Nat.le_of_ble_eq_true rfl) Le.rf (fun E hE => ?_)⟩
    show Z E yX1_dropPart cX1_dropPart 3 none 2 (sh, d) 0 [(0, .ref l0), (1, .int l1)] []
    refine z_iconst 0 0 dX1_dropPart_0 (by decide) ?_
    refine z_istore_n [(2, .int (0 : Int32)), (0, .ref l0), (1, .int l1)] dX1_dropPart_1 rfl (by decide) rfl ?_
    refine z_lv [(0, .ref l0), (1, .int l1), (2, .int (0 : Int32))] [1, 2, 0] rfl ?_
    exact zb_X1_dropPart_2 hE N _ _ _ _ hf
  · cases hf
set_option maxRecDepth 20000 in
theorem zm_X1_sendOut {N : Nat} {sh : Sh} {d : Dt} {l0 : Nat} {l1 : Int32} {r : Dt} (hf : f_X1_sendOut N sh l0 l1 d = some r) : isO sh l0 1 ∧ ∀ (l : Launch) (G : GG), Mt l G yX1_sendOut cX1_sendOut 2 none 3 [.ref l0, .int l1] (sh, d) none (sh, r) := by
  have hf0 := hf
  unfold f_X1_sendOut at hf
  refine ite_d hf (fun hO hf => ?_) (fun _ hf => ?_)
  · refine ⟨hO, fun l G => mt_of (Or.inl (by decide)) (Nat.le_of_ble_eq_true rfl) Le.rf (fun E hE => ?_)⟩
    show Z E yX1_sendOut cX1_sendOut 2 none 3 (sh, d) 0 [(0, .ref l0), (1, .int l1)] []
    refine z_aload_n 0 dX1_sendOut_0 rfl rfl ?_
    refine z_iload_n 1 dX1_sendOut_1 rfl rfl ?_
    obtain ⟨v1, ev1, hf⟩ := ob hf
    refine z_cVv (ci := 1) (T := TX1) (N := 8) (As := [.int l1]) (rest := []) (zm_X1_dropPart ev1).2 (zm_X1_dropPart ev1).1 (by decide) rfl (Or.inl rfl) mw_32_6 mw_32_7 mw_32_8 mw_1_18 mw_32_9 yk_X1_dropPart (by decide) (by decide) rfl (Nat.le_of_ble_eq_true rfl) rfl dX1_sendOut_2 ?_
    refine z_aload_n 0 dX1_sendOut_5 rfl rfl ?_
    refine z_gP (ci := 1) (k := 3) (C := RX1) (T := TX1) (N := 8) rfl inlX1 (by decide) mw_3_16 (fun _ _ _ _ h9 => h9) hf (by decide) rfl dX1_sendOut_6  (fun v2 hf => ?_)
    refine z_iload_n 1 dX1_sendOut_9 rfl rfl ?_
    refine z_bipush 6 6 dX1_sendOut_10 (by decide) ?_
    refine z_iconst (-1) (-1) dX1_sendOut_12 (by decide) ?_
    obtain ⟨v3, ev3, hf⟩ := ob hf
    refine z_cVv (ci := 8) (T := TX8) (N := 2) (As := [.int l1, .int (6 : Int32), .int (-1 : Int32)]) (rest := []) (zm_X8_put ev3).2 (zm_X8_put ev3).1 (by decide) rfl (Or.inl rfl) mw_20_3 mw_12_23 mw_13_0 mw_3_13 mw_13_1 yk_X8_put (by decide) (by decide) rfl (Nat.le_of_ble_eq_true rfl) rfl dX1_sendOut_13 ?_
    cases hf
    exact z_return hE rfl dX1_sendOut_16
  · cases hf
set_option maxRecDepth 20000 in
theorem le_X11_out_52 {N : Nat} {r : Int32 × AS}  {t0 : Nat} {t1 : Int32} {s : AS} (hf : f_X11_out_52 N t0 t1 s = some r) : Le s r.2 := by
  unfold f_X11_out_52 at hf
  obtain ⟨v10, -, hf⟩ := ob hf
  cases hf
  exact Le.rf
set_option maxRecDepth 20000 in
theorem zb_X11_out_52 {N : Nat} {r : Int32 × AS} {E : EV} (hE : TG E (some (.int r.1)) r.2)   {t0 : Nat} {t1 : Int32} {s : AS} (hf : f_X11_out_52 N t0 t1 s = some r) : Z E yX11_out cX11_out 3 (some .int) 6 s 52 [] [.int t1, .ref t0] := by
  unfold f_X11_out_52 at hf
  obtain ⟨v10, ev10, hf⟩ := ob hf
  refine z_cVi (ci := 11) (T := TX11) (N := 14) (As := [.int t1]) (rest := []) (zm_X11_answer ev10).2 (zm_X11_answer ev10).1 (by decide) rfl (Or.inl rfl) mw_11_2 mw_11_3 mw_11_4 mw_1_2 mw_11_5 yk_X11_answer (by decide) (by decide) rfl (Nat.le_of_ble_eq_true rfl) rfl dX11_out_52 ?_
  cases hf
  exact z_ireturn hE rfl dX11_out_55
set_option maxRecDepth 20000 in
theorem le_X11_out_34 {N : Nat} {r : Int32 × AS}  {l0 : Nat} {l1 : Int32} {l2 : Int32} {s : AS} (hf : f_X11_out_34 N l0 l1 l2 s = some r) : Le s r.2 := by
  unfold f_X11_out_34 at hf
  obtain ⟨v8, -, hf⟩ := ob hf
  obtain ⟨v9, -, hf⟩ := ob hf
  refine ite_c hf (fun hf => ?_) (fun hf => ?_)
  · exact Le.via (le_X11_out_52 hf) rfl
  · exact Le.via (le_X11_out_52 hf) rfl
set_option maxRecDepth 20000 in
theorem zb_X11_out_34 {N : Nat} {r : Int32 × AS} {E : EV} (hE : TG E (some (.int r.1)) r.2)   {l0 : Nat} {l1 : Int32} {l2 : Int32} {s : AS} (hf : f_X11_out_34 N l0 l1 l2 s = some r) : Z E yX11_out cX11_out 3 (some .int) 6 s 34 [(0, .ref l0), (1, .int l1), (2, .int l2)] [] := by
  unfold f_X11_out_34 at hf
  refine z_aload_n 0 dX11_out_34 rfl rfl ?_
  refine z_gP (ci := 11) (k := 1) (C := RX11) (T := TX11) (N := 14) rfl inlX11 (by decide) mw_1_19 (fun _ _ _ _ h9 => h9) hf (by decide) rfl dX11_out_35  (fun v8 hf => ?_)
  refine z_iload_n 1 dX11_out_38 rfl rfl ?_
  obtain ⟨v9, ev9, hf⟩ := ob hf
  refine z_cVv (ci := 1) (T := TX1) (N := 8) (As := [.int l1]) (rest := []) (zm_X1_sendOut ev9).2 (zm_X1_sendOut ev9).1 (by decide) rfl (Or.inl rfl) mw_32_2 mw_32_3 mw_32_4 mw_1_18 mw_32_5 yk_X1_sendOut (by decide) (by decide) rfl (Nat.le_of_ble_eq_true rfl) rfl dX11_out_39 ?_
  refine z_aload_n 0 dX11_out_42 rfl rfl ?_
  refine z_iload_n 2 dX11_out_43 rfl rfl ?_
  refine z_if_eq 51 hf dX11_out_44 (by decide) (fun hf => ?_) (fun hf => ?_)
  · refine z_iconst 1 1 dX11_out_51 (by decide) ?_
    refine z_lv [] [] rfl ?_
    exact zb_X11_out_52 hE hf
  · refine z_iconst 0 0 dX11_out_47 (by decide) ?_
    refine z_goto 52 dX11_out_48 (by decide) ?_
    refine z_lv [] [] rfl ?_
    exact zb_X11_out_52 hE hf
set_option maxRecDepth 20000 in
theorem lm_X11_out {N : Nat} {s : AS} {l0 : Nat} {l1 : Int32} {r : Int32 × AS} (hf : f_X11_out N l0 l1 s = some r) : Le s r.2 := by
  unfold f_X11_out at hf
  refine ite_c hf (fun hf => ?_) (fun hf => ?_)
  · skip
    obtain ⟨v1, -, hf⟩ := ob hf
    obtain ⟨v2, -, hf⟩ := ob hf
    obtain ⟨v3, -, hf⟩ := ob hf
    refine ite_c hf (fun hf => ?_) (fun hf => ?_)
    · obtain ⟨v4, -, hf⟩ := ob hf
      obtain ⟨v5, -, hf⟩ := ob hf
      obtain ⟨v6, ev6, hf⟩ := ob hf
      refine Le.of (t := (s.1, s.2)) rfl ((lm_X11_change ev6).tr ?_)
      exact Le.via (le_X11_out_34 hf) rfl
    · obtain ⟨v7, -, hf⟩ := ob hf
      cases hf
      exact Le.rf
  · cases hf
set_option maxRecDepth 20000 in
theorem zm_X11_out {N : Nat} {s : AS} {l0 : Nat} {l1 : Int32} {r : Int32 × AS} (hf : f_X11_out N l0 l1 s = some r) : isO s.1 l0 11 ∧ ∀ (l : Launch) (G : GG), Mt l G yX11_out cX11_out 3 (some .int) 6 [.ref l0, .int l1] s (some (.int r.1)) r.2 := by
  have hf0 := hf
  unfold f_X11_out at hf
  refine ite_d hf (fun hO hf => ?_) (fun _ hf => ?_)
  · refine ⟨hO, fun l G => mt_of (Or.inl (by decide)) (Nat.le_of_ble_eq_true rfl) (lm_X11_out hf0) (fun E hE => ?_)⟩
    show Z E yX11_out cX11_out 3 (some .int) 6 s 0 [(0, .ref l0), (1, .int l1)] []
    refine z_aload_n 0 dX11_out_0 rfl rfl ?_
    refine z_gP (ci := 11) (k := 1) (C := RX11) (T := TX11) (N := 14) rfl inlX11 (by decide) mw_1_19 (fun _ _ _ _ h9 => h9) hf (by decide) rfl dX11_out_1  (fun v1 hf => ?_)
    refine z_gP (ci := 1) (k := 3) (C := RX1) (T := TX1) (N := 8) rfl inlX1 (by decide) mw_29_16 (fun _ _ _ _ h9 => h9) hf (by decide) rfl dX11_out_4  (fun v2 hf => ?_)
    refine z_iload_n 1 dX11_out_7 rfl rfl ?_
    obtain ⟨v3, ev3, hf⟩ := ob hf
    refine z_cVi (ci := 8) (T := TX8) (N := 2) (As := [.int l1]) (rest := []) (zm_X8_has ev3).2 (zm_X8_has ev3).1 (by decide) rfl (Or.inl rfl) mw_13_22 mw_13_23 mw_14_0 mw_3_13 mw_14_1 yk_X8_has (by decide) (by decide) rfl (Nat.le_of_ble_eq_true rfl) rfl dX11_out_8 ?_
    refine z_if_ne 21 hf dX11_out_11 (by decide) (fun hf => ?_) (fun hf => ?_)
    · refine z_aload_n 0 dX11_out_21 rfl rfl ?_
      refine z_gP (ci := 11) (k := 1) (C := RX11) (T := TX11) (N := 14) rfl inlX11 (by decide) mw_1_19 (fun _ _ _ _ h9 => h9) hf (by decide) rfl dX11_out_22  (fun v4 hf => ?_)
      refine z_iload_n 1 dX11_out_25 rfl rfl ?_
      obtain ⟨v5, ev5, hf⟩ := ob hf
      refine z_cVi (ci := 1) (T := TX1) (N := 8) (As := [.int l1]) (rest := []) (zm_X1_isOut ev5).2 (zm_X1_isOut ev5).1 (by decide) rfl (Or.inl rfl) mw_31_22 mw_31_23 mw_32_0 mw_1_18 mw_32_1 yk_X1_isOut (by decide) (by decide) rfl (Nat.le_of_ble_eq_true rfl) rfl dX11_out_26 ?_
      refine z_istore_n [(2, .int v5), (0, .ref l0), (1, .int l1)] dX11_out_29 rfl (by decide) rfl ?_
      refine z_aload_n 1 dX11_out_30 rfl rfl ?_
      obtain ⟨v6, ev6, hf⟩ := ob hf
      refine z_cVv (ci := 11) (T := TX11) (N := 14) (As := []) (rest := []) (zm_X11_change ev6).2 (zm_X11_change ev6).1 (by decide) rfl (Or.inr (tg_le hE (le_X11_out_34 hf))) mw_8_7 mw_8_8 mw_8_9 mw_1_2 mw_8_10 yk_X11_change (by decide) (by decide) rfl (Nat.le_of_ble_eq_true rfl) rfl dX11_out_31 ?_
      refine z_lv [(0, .ref l0), (1, .int l1), (2, .int v5)] [1, 2, 0] rfl ?_
      exact zb_X11_out_34 hE hf
    · refine z_aload_n 0 dX11_out_14 rfl rfl ?_
      refine z_bipush (-2) (-2) dX11_out_15 (by decide) ?_
      obtain ⟨v7, ev7, hf⟩ := ob hf
      refine z_cVi (ci := 11) (T := TX11) (N := 14) (As := [.int (-2 : Int32)]) (rest := []) (zm_X11_refuse ev7).2 (zm_X11_refuse ev7).1 (by decide) rfl (Or.inl rfl) mw_7_22 mw_7_23 mw_8_0 mw_1_2 mw_8_1 yk_X11_refuse (by decide) (by decide) rfl (Nat.le_of_ble_eq_true rfl) rfl dX11_out_17 ?_
      cases hf
      exact z_ireturn hE rfl dX11_out_20
  · cases hf
set_option maxRecDepth 20000 in
theorem zb_X11_whyUnpaired_32 {N : Nat} {sh : Sh} {d : Dt} {r : Int32} {E : EV} (hE : TG E (some (.int r)) (sh, d))  {t0 : Int32} (hf : f_X11_whyUnpaired_32 N sh t0 d = some r) : Z E yX11_whyUnpaired cX11_whyUnpaired 2 (some .int) 3 (sh, d) 32 [] [.int t0] := by
  unfold f_X11_whyUnpaired_32 at hf
  cases hf
  exact z_ireturn hE rfl dX11_whyUnpaired_32
set_option maxRecDepth 20000 in
theorem zm_X11_whyUnpaired {N : Nat} {sh : Sh} {d : Dt} {l0 : Nat} {l1 : Int32} {r : Int32} (hf : f_X11_whyUnpaired N sh l0 l1 d = some r) : isO sh l0 11 ∧ ∀ (l : Launch) (G : GG), Mt l G yX11_whyUnpaired cX11_whyUnpaired 2 (some .int) 3 [.ref l0, .int l1] (sh, d) (some (.int r)) (sh, d) := by
  have hf0 := hf
  unfold f_X11_whyUnpaired at hf
  refine ite_d hf (fun hO hf => ?_) (fun _ hf => ?_)
  · refine ⟨hO, fun l G => mt_of (Or.inl (by decide)) (Nat.le_of_ble_eq_true rfl) Le.rf (fun E hE => ?_)⟩
    show Z E yX11_whyUnpaired cX11_whyUnpaired 2 (some .int) 3 (sh, d) 0 [(0, .ref l0), (1, .int l1)] []
    refine z_aload_n 0 dX11_whyUnpaired_0 rfl rfl ?_
    refine z_gP (ci := 11) (k := 1) (C := RX11) (T := TX11) (N := 14) rfl inlX11 (by decide) mw_1_19 (fun _ _ _ _ h9 => h9) hf (by decide) rfl dX11_whyUnpaired_1  (fun v1 hf => ?_)
    refine z_iload_n 1 dX11_whyUnpaired_4 rfl rfl ?_
    obtain ⟨v2, ev2, hf⟩ := ob hf
    refine z_cVi (ci := 1) (T := TX1) (N := 8) (As := [.int l1]) (rest := []) (zm_X1_isOut ev2).2 (zm_X1_isOut ev2).1 (by decide) rfl (Or.inl rfl) mw_31_22 mw_31_23 mw_32_0 mw_1_18 mw_32_1 yk_X1_isOut (by decide) (by decide) rfl (Nat.le_of_ble_eq_true rfl) rfl dX11_whyUnpaired_5 ?_
    refine z_if_eq 14 hf dX11_whyUnpaired_8 (by decide) (fun hf => ?_) (fun hf => ?_)
    · refine z_aload_n 0 dX11_whyUnpaired_14 rfl rfl ?_
      refine z_gP (ci := 11) (k := 6) (C := RX11) (T := TX11) (N := 14) rfl inlX11 (by decide) mw_2_10 (fun _ _ _ _ h9 => h9) hf (by decide) rfl dX11_whyUnpaired_15  (fun v3 hf => ?_)
      refine z_iload_n 1 dX11_whyUnpaired_18 rfl rfl ?_
      refine z_aP hf dX11_whyUnpaired_19  (fun v4 hf => ?_)
      refine z_iOf3 hf mw_31_14 dX11_whyUnpaired_20  (fun v5 hf => ?_)
      refine z_if_eq 31 hf dX11_whyUnpaired_23 (by decide) (fun hf => ?_) (fun hf => ?_)
      · refine z_iconst 0 0 dX11_whyUnpaired_31 (by decide) ?_
        refine z_lv [] [] rfl ?_
        exact zb_X11_whyUnpaired_32 hE hf
      · refine z_bipush (-6) (-6) dX11_whyUnpaired_26 (by decide) ?_
        refine z_goto 32 dX11_whyUnpaired_28 (by decide) ?_
        refine z_lv [] [] rfl ?_
        exact zb_X11_whyUnpaired_32 hE hf
    · refine z_bipush (-4) (-4) dX11_whyUnpaired_11 (by decide) ?_
      cases hf
      exact z_ireturn hE rfl dX11_whyUnpaired_13
  · cases hf
set_option maxRecDepth 20000 in
theorem le_X3_init_35 {N : Nat} {r : AS}   {s : AS} (hf : f_X3_init_35 N  s = some r) : Le s r := by
  unfold f_X3_init_35 at hf
  cases hf
  exact Le.rf
set_option maxRecDepth 20000 in
theorem zb_X3_init_35 {N : Nat} {r : AS} {E : EV} (hE : TG E none r)    {s : AS} (hf : f_X3_init_35 N  s = some r) : Z E yX3_init cX3_init 4 none 2 s 35 [] [] := by
  unfold f_X3_init_35 at hf
  cases hf
  exact z_return hE rfl dX3_init_35
set_option maxRecDepth 20000 in
theorem le_X3_init_30 {N : Nat} {r : AS}  {l0 : Nat} {l3 : Nat} {s : AS} (hf : f_X3_init_30 N l0 l3 s = some r) : Le s r := by
  unfold f_X3_init_30 at hf
  obtain ⟨s7, es7, hf⟩ := ob hf
  refine Le.of (t := (s.1, s.2)) rfl ((le_pP es7).tr ?_)
  exact Le.via (le_X3_init_35 hf) rfl
set_option maxRecDepth 20000 in
theorem zb_X3_init_30 {N : Nat} {r : AS} {E : EV} (hE : TG E none r)   {l0 : Nat} {l3 : Nat} {s : AS} (hf : f_X3_init_30 N l0 l3 s = some r) : Z E yX3_init cX3_init 4 none 2 s 30 [(0, .ref l0), (3, .ref l3)] [] := by
  unfold f_X3_init_30 at hf
  refine z_aload_n 0 dX3_init_30 rfl rfl ?_
  refine z_aload_n 1 dX3_init_31 rfl rfl ?_
  refine z_pP (ci := 3) (k := 4) (C := RX3) (T := TX3) (N := 5) rfl inlX3 (by decide) mw_32_17 (fun _ _ _ _ h9 => h9) tyX3 tyX3_ok nmX3 rfl rfl rfl hf (Or.inl (by decide)) rfl rfl rfl dX3_init_32 (fun s7 es7 hf => ?_)
  refine z_lv [] [] rfl ?_
  exact zb_X3_init_35 hE hf
set_option maxRecDepth 20000 in
theorem le_X3_init_25 {N : Nat} {r : AS}  {l0 : Nat} {l2 : Nat} {l3 : Nat} {s : AS} (hf : f_X3_init_25 N l0 l2 l3 s = some r) : Le s r := by
  unfold f_X3_init_25 at hf
  obtain ⟨s6, es6, hf⟩ := ob hf
  refine Le.of (t := (s.1, s.2)) rfl ((le_pP es6).tr ?_)
  exact Le.via (le_X3_init_30 hf) rfl
set_option maxRecDepth 20000 in
theorem zb_X3_init_25 {N : Nat} {r : AS} {E : EV} (hE : TG E none r)   {l0 : Nat} {l2 : Nat} {l3 : Nat} {s : AS} (hf : f_X3_init_25 N l0 l2 l3 s = some r) : Z E yX3_init cX3_init 4 none 2 s 25 [(0, .ref l0), (2, .ref l2), (3, .ref l3)] [] := by
  unfold f_X3_init_25 at hf
  refine z_aload_n 0 dX3_init_25 rfl rfl ?_
  refine z_aload_n 1 dX3_init_26 rfl rfl ?_
  refine z_pP (ci := 3) (k := 3) (C := RX3) (T := TX3) (N := 5) rfl inlX3 (by decide) mw_32_16 (fun _ _ _ _ h9 => h9) tyX3 tyX3_ok nmX3 rfl rfl rfl hf (Or.inl (by decide)) rfl rfl rfl dX3_init_27 (fun s6 es6 hf => ?_)
  refine z_lv [(0, .ref l0), (3, .ref l3)] [0, 2] rfl ?_
  exact zb_X3_init_30 hE hf
set_option maxRecDepth 20000 in
theorem lm_X3_init {N : Nat} {s : AS} {l0 : Nat} {l1 : Nat} {l2 : Nat} {l3 : Nat} {r : AS} (hf : f_X3_init N l0 l1 l2 l3 s = some r) : Le s r := by
  unfold f_X3_init at hf
  refine ite_c hf (fun hf => ?_) (fun hf => ?_)
  · skip
    obtain ⟨v1, -, hf⟩ := ob hf
    obtain ⟨v2, -, hf⟩ := ob hf
    obtain ⟨v3, -, hf⟩ := ob hf
    obtain ⟨v4, -, hf⟩ := ob hf
    obtain ⟨v5, ev5, hf⟩ := ob hf
    refine Le.of (t := (s.1, s.2)) rfl ((lm_X6_init ev5).tr ?_)
    exact Le.via (le_X3_init_25 hf) rfl
  · cases hf
set_option maxRecDepth 20000 in
theorem zm_X3_init {N : Nat} {s : AS} {l0 : Nat} {l1 : Nat} {l2 : Nat} {l3 : Nat} {r : AS} (hf : f_X3_init N l0 l1 l2 l3 s = some r) : isO s.1 l0 3 ∧ ∀ (l : Launch) (G : GG), Mt l G yX3_init cX3_init 4 none 2 [.ref l0, .ref l1, .ref l2, .ref l3] s none r := by
  have hf0 := hf
  unfold f_X3_init at hf
  refine ite_d hf (fun hO hf => ?_) (fun _ hf => ?_)
  · refine ⟨hO, fun l G => mt_of (Or.inl (by decide)) (Nat.le_of_ble_eq_true rfl) (lm_X3_init hf0) (fun E hE => ?_)⟩
    show Z E yX3_init cX3_init 4 none 2 s 0 [(0, .ref l0), (1, .ref l1), (2, .ref l2), (3, .ref l3)] []
    refine z_aload_n 0 dX3_init_0 rfl rfl ?_
    refine z_aload_n 1 dX3_init_1 rfl rfl ?_
    refine z_aload_n 2 dX3_init_2 rfl rfl ?_
    refine z_g6_1 hf mw_32_13 dX3_init_3  (fun v1 hf => ?_)
    refine z_aload_n 3 dX3_init_6 rfl rfl ?_
    refine z_g6_1 hf mw_32_13 dX3_init_7  (fun v2 hf => ?_)
    refine z_min mw_32_14 mw_9_20 mw_8_22 mw_9_21 (by decide) (Nat.le_of_ble_eq_true rfl) dX3_init_10 ?_
    refine z_aload_n 2 dX3_init_13 rfl rfl ?_
    refine z_g6_2 hf mw_32_15 dX3_init_14  (fun v3 hf => ?_)
    refine z_aload_n 3 dX3_init_17 rfl rfl ?_
    refine z_g6_2 hf mw_32_15 dX3_init_18  (fun v4 hf => ?_)
    refine z_iadd dX3_init_21 ?_
    obtain ⟨v5, ev5, hf⟩ := ob hf
    refine z_cI (As := [.ref l1, .int (o_min v1 v2), .int (v3 + v4)]) (rest := []) (zm_X6_init ev5).2 (Or.inr (tg_le hE (le_X3_init_25 hf))) mw_32_18 mw_6_9 mw_2_22 mw_6_10 rfl yk_X6_init (by decide) (by decide) rfl (Nat.le_of_ble_eq_true rfl) rfl dX3_init_22 ?_
    refine z_lv [(0, .ref l0), (2, .ref l2), (3, .ref l3)] [0, 2, 3] rfl ?_
    exact zb_X3_init_25 hE hf
  · cases hf
set_option maxRecDepth 20000 in
theorem le_X11_pair_44 {N : Nat} {r : Int32 × AS}  {l0 : Nat} {s : AS} (hf : f_X11_pair_44 N l0 s = some r) : Le s r.2 := by
  unfold f_X11_pair_44 at hf
  obtain ⟨v13, -, hf⟩ := ob hf
  cases hf
  exact Le.rf
set_option maxRecDepth 20000 in
theorem zb_X11_pair_44 {N : Nat} {r : Int32 × AS} {E : EV} (hE : TG E (some (.int r.1)) r.2)   {l0 : Nat} {s : AS} (hf : f_X11_pair_44 N l0 s = some r) : Z E yX11_pair cX11_pair 5 (some .int) 6 s 44 [(0, .ref l0)] [] := by
  unfold f_X11_pair_44 at hf
  refine z_aload_n 0 dX11_pair_44 rfl rfl ?_
  refine z_bipush (-2) (-2) dX11_pair_45 (by decide) ?_
  obtain ⟨v13, ev13, hf⟩ := ob hf
  refine z_cVi (ci := 11) (T := TX11) (N := 14) (As := [.int (-2 : Int32)]) (rest := []) (zm_X11_refuse ev13).2 (zm_X11_refuse ev13).1 (by decide) rfl (Or.inl rfl) mw_7_22 mw_7_23 mw_8_0 mw_1_2 mw_8_1 yk_X11_refuse (by decide) (by decide) rfl (Nat.le_of_ble_eq_true rfl) rfl dX11_pair_47 ?_
  cases hf
  exact z_ireturn hE rfl dX11_pair_50
set_option maxRecDepth 20000 in
theorem le_X11_pair_154 {N : Nat} {r : Int32 × AS}  {t0 : Nat} {t1 : Int32} {s : AS} (hf : f_X11_pair_154 N t0 t1 s = some r) : Le s r.2 := by
  unfold f_X11_pair_154 at hf
  obtain ⟨v27, -, hf⟩ := ob hf
  cases hf
  exact Le.rf
set_option maxRecDepth 20000 in
theorem zb_X11_pair_154 {N : Nat} {r : Int32 × AS} {E : EV} (hE : TG E (some (.int r.1)) r.2)   {t0 : Nat} {t1 : Int32} {s : AS} (hf : f_X11_pair_154 N t0 t1 s = some r) : Z E yX11_pair cX11_pair 5 (some .int) 6 s 154 [] [.int t1, .ref t0] := by
  unfold f_X11_pair_154 at hf
  obtain ⟨v27, ev27, hf⟩ := ob hf
  refine z_cVi (ci := 11) (T := TX11) (N := 14) (As := [.int t1]) (rest := []) (zm_X11_answer ev27).2 (zm_X11_answer ev27).1 (by decide) rfl (Or.inl rfl) mw_11_2 mw_11_3 mw_11_4 mw_1_2 mw_11_5 yk_X11_answer (by decide) (by decide) rfl (Nat.le_of_ble_eq_true rfl) rfl dX11_pair_154 ?_
  cases hf
  exact z_ireturn hE rfl dX11_pair_157
set_option maxRecDepth 20000 in
theorem le_X11_pair_149 {N : Nat} {r : Int32 × AS}  {l3 : Int32} {t0 : Nat} {t1 : Nat} {t2 : Nat} {s : AS} (hf : f_X11_pair_149 N l3 t0 t1 t2 s = some r) : Le s r.2 := by
  unfold f_X11_pair_149 at hf
  obtain ⟨v26, ev26, hf⟩ := ob hf
  refine Le.of (t := (s.1, s.2)) rfl ((lm_X11_enlist ev26).tr ?_)
  exact Le.via (le_X11_pair_154 hf) rfl
set_option maxRecDepth 20000 in
theorem zb_X11_pair_149 {N : Nat} {r : Int32 × AS} {E : EV} (hE : TG E (some (.int r.1)) r.2)   {l3 : Int32} {t0 : Nat} {t1 : Nat} {t2 : Nat} {s : AS} (hf : f_X11_pair_149 N l3 t0 t1 t2 s = some r) : Z E yX11_pair cX11_pair 5 (some .int) 6 s 149 [(3, .int l3)] [.ref t2, .ref t1, .ref t0] := by
  unfold f_X11_pair_149 at hf
  refine z_iconst 4 4 dX11_pair_149 (by decide) ?_
  refine z_iload_n 0 dX11_pair_150 rfl rfl ?_
  obtain ⟨v26, ev26, hf⟩ := ob hf
  refine z_cVi (ci := 11) (T := TX11) (N := 14) (As := [.ref t2, .int (4 : Int32), .int l3]) (rest := [.ref t0]) (zm_X11_enlist ev26).2 (zm_X11_enlist ev26).1 (by decide) rfl (Or.inr (tg_le hE (le_X11_pair_154 hf))) mw_30_18 mw_30_19 mw_30_20 mw_1_2 mw_30_21 yk_X11_enlist (by decide) (by decide) rfl (Nat.le_of_ble_eq_true rfl) rfl dX11_pair_151 ?_
  refine z_lv [] [] rfl ?_
  exact zb_X11_pair_154 hE hf
set_option maxRecDepth 20000 in
theorem le_X11_pair_129 {N : Nat} {r : Int32 × AS}  {l0 : Nat} {l1 : Int32} {l2 : Int32} {l3 : Int32} {t0 : Nat} {t1 : Nat} {t2 : Nat} {s : AS} (hf : f_X11_pair_129 N l0 l1 l2 l3 t0 t1 t2 s = some r) : Le s r.2 := by
  unfold f_X11_pair_129 at hf
  obtain ⟨v20, -, hf⟩ := ob hf
  obtain ⟨v21, -, hf⟩ := ob hf
  obtain ⟨v22, -, hf⟩ := ob hf
  obtain ⟨v23, -, hf⟩ := ob hf
  obtain ⟨v24, -, hf⟩ := ob hf
  obtain ⟨v25, ev25, hf⟩ := ob hf
  refine Le.of (t := (s.1, s.2)) rfl ((lm_X3_init ev25).tr ?_)
  exact Le.via (le_X11_pair_149 hf) rfl
set_option maxRecDepth 20000 in
theorem zb_X11_pair_129 {N : Nat} {r : Int32 × AS} {E : EV} (hE : TG E (some (.int r.1)) r.2)   {l0 : Nat} {l1 : Int32} {l2 : Int32} {l3 : Int32} {t0 : Nat} {t1 : Nat} {t2 : Nat} {s : AS} (hf : f_X11_pair_129 N l0 l1 l2 l3 t0 t1 t2 s = some r) : Z E yX11_pair cX11_pair 5 (some .int) 6 s 129 [(0, .ref l0), (1, .int l1), (2, .int l2), (3, .int l3)] [.ref t2, .ref t1, .ref t0] := by
  unfold f_X11_pair_129 at hf
  refine z_dup dX11_pair_129 rfl ?_
  refine z_aload_n 0 dX11_pair_130 rfl rfl ?_
  refine z_gP (ci := 11) (k := 0) (C := RX11) (T := TX11) (N := 14) rfl inlX11 (by decide) mw_1_15 (fun _ _ _ _ h9 => h9) hf (by decide) rfl dX11_pair_131  (fun v20 hf => ?_)
  refine z_aload_n 0 dX11_pair_134 rfl rfl ?_
  refine z_gP (ci := 11) (k := 6) (C := RX11) (T := TX11) (N := 14) rfl inlX11 (by decide) mw_2_10 (fun _ _ _ _ h9 => h9) hf (by decide) rfl dX11_pair_135  (fun v21 hf => ?_)
  refine z_iload_n 1 dX11_pair_138 rfl rfl ?_
  refine z_aP hf dX11_pair_139  (fun v22 hf => ?_)
  refine z_aload_n 0 dX11_pair_140 rfl rfl ?_
  refine z_gP (ci := 11) (k := 6) (C := RX11) (T := TX11) (N := 14) rfl inlX11 (by decide) mw_2_10 (fun _ _ _ _ h9 => h9) hf (by decide) rfl dX11_pair_141  (fun v23 hf => ?_)
  refine z_iload_n 2 dX11_pair_144 rfl rfl ?_
  refine z_aP hf dX11_pair_145  (fun v24 hf => ?_)
  obtain ⟨v25, ev25, hf⟩ := ob hf
  refine z_cI (As := [.ref v20, .ref v22, .ref v24]) (rest := [.ref t2, .ref t1, .ref t0]) (zm_X3_init ev25).2 (Or.inr (tg_le hE (le_X11_pair_149 hf))) mw_32_10 mw_32_11 mw_31_16 mw_32_12 rfl yk_X3_init (by decide) (by decide) rfl (Nat.le_of_ble_eq_true rfl) rfl dX11_pair_146 ?_
  refine z_lv [(3, .int l3)] [3] rfl ?_
  exact zb_X11_pair_149 hE hf
set_option maxRecDepth 20000 in
theorem le_X11_pair_108 {N : Nat} {r : Int32 × AS}  {l0 : Nat} {l1 : Int32} {l2 : Int32} {l3 : Int32} {s : AS} (hf : f_X11_pair_108 N l0 l1 l2 l3 s = some r) : Le s r.2 := by
  unfold f_X11_pair_108 at hf
  obtain ⟨v16, -, hf⟩ := ob hf
  obtain ⟨v17, -, hf⟩ := ob hf
  obtain ⟨v18, -, hf⟩ := ob hf
  obtain ⟨v19, -, hf⟩ := ob hf
  refine Le.of (t := (s.1, v19)) rfl (le_nObj.tr (u := _) (t := nObj (s.1, v19) 3) ?_)
  exact Le.via (le_X11_pair_129 hf) rfl
set_option maxRecDepth 20000 in
theorem zb_X11_pair_108 {N : Nat} {r : Int32 × AS} {E : EV} (hE : TG E (some (.int r.1)) r.2)   {l0 : Nat} {l1 : Int32} {l2 : Int32} {l3 : Int32} {s : AS} (hf : f_X11_pair_108 N l0 l1 l2 l3 s = some r) : Z E yX11_pair cX11_pair 5 (some .int) 6 s 108 [(0, .ref l0), (1, .int l1), (2, .int l2), (3, .int l3)] [] := by
  unfold f_X11_pair_108 at hf
  refine z_aload_n 0 dX11_pair_108 rfl rfl ?_
  refine z_gP (ci := 11) (k := 1) (C := RX11) (T := TX11) (N := 14) rfl inlX11 (by decide) mw_1_19 (fun _ _ _ _ h9 => h9) hf (by decide) rfl dX11_pair_109  (fun v16 hf => ?_)
  refine z_iload_n 1 dX11_pair_112 rfl rfl ?_
  obtain ⟨v17, ev17, hf⟩ := ob hf
  refine z_cVv (ci := 1) (T := TX1) (N := 8) (As := [.int l1]) (rest := []) (zm_X1_sendOut ev17).2 (zm_X1_sendOut ev17).1 (by decide) rfl (Or.inl rfl) mw_32_2 mw_32_3 mw_32_4 mw_1_18 mw_32_5 yk_X1_sendOut (by decide) (by decide) rfl (Nat.le_of_ble_eq_true rfl) rfl dX11_pair_113 ?_
  refine z_aload_n 0 dX11_pair_116 rfl rfl ?_
  refine z_gP (ci := 11) (k := 1) (C := RX11) (T := TX11) (N := 14) rfl inlX11 (by decide) mw_1_19 (fun _ _ _ _ h9 => h9) hf (by decide) rfl dX11_pair_117  (fun v18 hf => ?_)
  refine z_iload_n 2 dX11_pair_120 rfl rfl ?_
  obtain ⟨v19, ev19, hf⟩ := ob hf
  refine z_cVv (ci := 1) (T := TX1) (N := 8) (As := [.int l2]) (rest := []) (zm_X1_sendOut ev19).2 (zm_X1_sendOut ev19).1 (by decide) rfl (Or.inl rfl) mw_32_2 mw_32_3 mw_32_4 mw_1_18 mw_32_5 yk_X1_sendOut (by decide) (by decide) rfl (Nat.le_of_ble_eq_true rfl) rfl dX11_pair_121 ?_
  refine z_aload_n 0 dX11_pair_124 rfl rfl ?_
  refine z_aload_n 0 dX11_pair_125 rfl rfl ?_
  refine z_newo (ci := 3) (C := RX3) (T := TX3) (N := 5) rfl inlX3 tyX3 tyX3_ok mw_31_14 mw_31_15 mw_31_16 rfl df_3 (tg_le hE (le_X11_pair_129 hf)) dX11_pair_126 ?_
  exact zb_X11_pair_129 hE hf
set_option maxRecDepth 20000 in
theorem le_X11_pair_92 {N : Nat} {r : Int32 × AS}  {l0 : Nat} {l1 : Int32} {l2 : Int32} {l3 : Int32} {l4 : Int32} {s : AS} (hf : f_X11_pair_92 N l0 l1 l2 l3 l4 s = some r) : Le s r.2 := by
  unfold f_X11_pair_92 at hf
  refine ite_c hf (fun hf => ?_) (fun hf => ?_)
  · obtain ⟨v14, ev14, hf⟩ := ob hf
    refine Le.of (t := (s.1, s.2)) rfl ((lm_X11_change ev14).tr ?_)
    exact Le.via (le_X11_pair_108 hf) rfl
  · obtain ⟨v15, -, hf⟩ := ob hf
    cases hf
    exact Le.rf
set_option maxRecDepth 20000 in
theorem zb_X11_pair_92 {N : Nat} {r : Int32 × AS} {E : EV} (hE : TG E (some (.int r.1)) r.2)   {l0 : Nat} {l1 : Int32} {l2 : Int32} {l3 : Int32} {l4 : Int32} {s : AS} (hf : f_X11_pair_92 N l0 l1 l2 l3 l4 s = some r) : Z E yX11_pair cX11_pair 5 (some .int) 6 s 92 [(0, .ref l0), (1, .int l1), (2, .int l2), (3, .int l3), (4, .int l4)] [] := by
  unfold f_X11_pair_92 at hf
  refine z_iload 4 dX11_pair_92 rfl ?_
  refine z_if_eq 104 hf dX11_pair_94 (by decide) (fun hf => ?_) (fun hf => ?_)
  · refine z_aload_n 0 dX11_pair_104 rfl rfl ?_
    obtain ⟨v14, ev14, hf⟩ := ob hf
    refine z_cVv (ci := 11) (T := TX11) (N := 14) (As := []) (rest := []) (zm_X11_change ev14).2 (zm_X11_change ev14).1 (by decide) rfl (Or.inr (tg_le hE (le_X11_pair_108 hf))) mw_8_7 mw_8_8 mw_8_9 mw_1_2 mw_8_10 yk_X11_change (by decide) (by decide) rfl (Nat.le_of_ble_eq_true rfl) rfl dX11_pair_105 ?_
    refine z_lv [(0, .ref l0), (1, .int l1), (2, .int l2), (3, .int l3)] [0, 1, 2, 3] rfl ?_
    exact zb_X11_pair_108 hE hf
  · refine z_aload_n 0 dX11_pair_97 rfl rfl ?_
    refine z_iload 4 dX11_pair_98 rfl ?_
    obtain ⟨v15, ev15, hf⟩ := ob hf
    refine z_cVi (ci := 11) (T := TX11) (N := 14) (As := [.int l4]) (rest := []) (zm_X11_refuse ev15).2 (zm_X11_refuse ev15).1 (by decide) rfl (Or.inl rfl) mw_7_22 mw_7_23 mw_8_0 mw_1_2 mw_8_1 yk_X11_refuse (by decide) (by decide) rfl (Nat.le_of_ble_eq_true rfl) rfl dX11_pair_100 ?_
    cases hf
    exact z_ireturn hE rfl dX11_pair_103
set_option maxRecDepth 20000 in
theorem lm_X11_pair {N : Nat} {s : AS} {l0 : Nat} {l1 : Int32} {l2 : Int32} {l3 : Int32} {r : Int32 × AS} (hf : f_X11_pair N l0 l1 l2 l3 s = some r) : Le s r.2 := by
  unfold f_X11_pair at hf
  refine ite_c hf (fun hf => ?_) (fun hf => ?_)
  · skip
    obtain ⟨v1, -, hf⟩ := ob hf
    obtain ⟨v2, -, hf⟩ := ob hf
    obtain ⟨v3, -, hf⟩ := ob hf
    refine ite_c hf (fun hf => ?_) (fun hf => ?_)
    · exact Le.via (le_X11_pair_44 hf) rfl
    · obtain ⟨v4, -, hf⟩ := ob hf
      obtain ⟨v5, -, hf⟩ := ob hf
      obtain ⟨v6, -, hf⟩ := ob hf
      refine ite_c hf (fun hf => ?_) (fun hf => ?_)
      · exact Le.via (le_X11_pair_44 hf) rfl
      · refine ite_c hf (fun hf => ?_) (fun hf => ?_)
        · exact Le.via (le_X11_pair_44 hf) rfl
        · refine ite_c hf (fun hf => ?_) (fun hf => ?_)
          · exact Le.via (le_X11_pair_44 hf) rfl
          · refine ite_c hf (fun hf => ?_) (fun hf => ?_)
            · obtain ⟨v7, -, hf⟩ := ob hf
              obtain ⟨v8, -, hf⟩ := ob hf
              obtain ⟨v9, -, hf⟩ := ob hf
              refine ite_c hf (fun hf => ?_) (fun hf => ?_)
              · obtain ⟨v10, -, hf⟩ := ob hf
                refine ite_c hf (fun hf => ?_) (fun hf => ?_)
                · exact Le.via (le_X11_pair_92 hf) rfl
                · obtain ⟨v11, -, hf⟩ := ob hf
                  exact Le.via (le_X11_pair_92 hf) rfl
              · obtain ⟨v12, -, hf⟩ := ob hf
                cases hf
                exact Le.rf
            · exact Le.via (le_X11_pair_44 hf) rfl
  · cases hf
set_option maxRecDepth 20000 in
theorem zm_X11_pair {N : Nat} {s : AS} {l0 : Nat} {l1 : Int32} {l2 : Int32} {l3 : Int32} {r : Int32 × AS} (hf : f_X11_pair N l0 l1 l2 l3 s = some r) : isO s.1 l0 11 ∧ ∀ (l : Launch) (G : GG), Mt l G yX11_pair cX11_pair 5 (some .int) 6 [.ref l0, .int l1, .int l2, .int l3] s (some (.int r.1)) r.2 := by
  have hf0 := hf
  unfold f_X11_pair at hf
  refine ite_d hf (fun hO hf => ?_) (fun _ hf => ?_)
  · refine ⟨hO, fun l G => mt_of (Or.inl (by decide)) (Nat.le_of_ble_eq_true rfl) (lm_X11_pair hf0) (fun E hE => ?_)⟩
    show Z E yX11_pair cX11_pair 5 (some .int) 6 s 0 [(0, .ref l0), (1, .int l1), (2, .int l2), (3, .int l3)] []
    refine z_aload_n 0 dX11_pair_0 rfl rfl ?_
    refine z_gP (ci := 11) (k := 1) (C := RX11) (T := TX11) (N := 14) rfl inlX11 (by decide) mw_1_19 (fun _ _ _ _ h9 => h9) hf (by decide) rfl dX11_pair_1  (fun v1 hf => ?_)
    refine z_gP (ci := 1) (k := 3) (C := RX1) (T := TX1) (N := 8) rfl inlX1 (by decide) mw_29_16 (fun _ _ _ _ h9 => h9) hf (by decide) rfl dX11_pair_4  (fun v2 hf => ?_)
    refine z_iload_n 1 dX11_pair_7 rfl rfl ?_
    obtain ⟨v3, ev3, hf⟩ := ob hf
    refine z_cVi (ci := 8) (T := TX8) (N := 2) (As := [.int l1]) (rest := []) (zm_X8_has ev3).2 (zm_X8_has ev3).1 (by decide) rfl (Or.inl rfl) mw_13_22 mw_13_23 mw_14_0 mw_3_13 mw_14_1 yk_X8_has (by decide) (by decide) rfl (Nat.le_of_ble_eq_true rfl) rfl dX11_pair_8 ?_
    refine z_if_eq 44 hf dX11_pair_11 (by decide) (fun hf => ?_) (fun hf => ?_)
    · refine z_lv [(0, .ref l0)] [0] rfl ?_
      exact zb_X11_pair_44 hE hf
    · refine z_aload_n 0 dX11_pair_14 rfl rfl ?_
      refine z_gP (ci := 11) (k := 1) (C := RX11) (T := TX11) (N := 14) rfl inlX11 (by decide) mw_1_19 (fun _ _ _ _ h9 => h9) hf (by decide) rfl dX11_pair_15  (fun v4 hf => ?_)
      refine z_gP (ci := 1) (k := 3) (C := RX1) (T := TX1) (N := 8) rfl inlX1 (by decide) mw_29_16 (fun _ _ _ _ h9 => h9) hf (by decide) rfl dX11_pair_18  (fun v5 hf => ?_)
      refine z_iload_n 2 dX11_pair_21 rfl rfl ?_
      obtain ⟨v6, ev6, hf⟩ := ob hf
      refine z_cVi (ci := 8) (T := TX8) (N := 2) (As := [.int l2]) (rest := []) (zm_X8_has ev6).2 (zm_X8_has ev6).1 (by decide) rfl (Or.inl rfl) mw_13_22 mw_13_23 mw_14_0 mw_3_13 mw_14_1 yk_X8_has (by decide) (by decide) rfl (Nat.le_of_ble_eq_true rfl) rfl dX11_pair_22 ?_
      refine z_if_eq 44 hf dX11_pair_25 (by decide) (fun hf => ?_) (fun hf => ?_)
      · refine z_lv [(0, .ref l0)] [0] rfl ?_
        exact zb_X11_pair_44 hE hf
      · refine z_iload_n 1 dX11_pair_28 rfl rfl ?_
        refine z_iload_n 2 dX11_pair_29 rfl rfl ?_
        refine z_icmp_eq 44 hf dX11_pair_30 (by decide) (fun hf => ?_) (fun hf => ?_)
        · refine z_lv [(0, .ref l0)] [0] rfl ?_
          exact zb_X11_pair_44 hE hf
        · refine z_iload_n 3 dX11_pair_33 rfl rfl ?_
          refine z_if_lt 44 hf dX11_pair_34 (by decide) (fun hf => ?_) (fun hf => ?_)
          · refine z_lv [(0, .ref l0)] [0] rfl ?_
            exact zb_X11_pair_44 hE hf
          · refine z_iload_n 3 dX11_pair_37 rfl rfl ?_
            refine z_sipush 10000 10000 dX11_pair_38 (by decide) ?_
            refine z_icmp_le 51 hf dX11_pair_41 (by decide) (fun hf => ?_) (fun hf => ?_)
            · refine z_aload_n 0 dX11_pair_51 rfl rfl ?_
              refine z_gP (ci := 11) (k := 1) (C := RX11) (T := TX11) (N := 14) rfl inlX11 (by decide) mw_1_19 (fun _ _ _ _ h9 => h9) hf (by decide) rfl dX11_pair_52  (fun v7 hf => ?_)
              refine z_gP (ci := 1) (k := 3) (C := RX1) (T := TX1) (N := 8) rfl inlX1 (by decide) mw_29_16 (fun _ _ _ _ h9 => h9) hf (by decide) rfl dX11_pair_55  (fun v8 hf => ?_)
              refine z_gI (ci := 8) (k := 1) (C := RX8) (T := TX8) (N := 2) rfl inlX8 (by decide) mw_12_13 (fun _ _ _ _ h9 => h9) hf (by decide) rfl dX11_pair_58  (fun v9 hf => ?_)
              refine z_bipush 12 12 dX11_pair_61 (by decide) ?_
              refine z_icmp_lt 73 hf dX11_pair_63 (by decide) (fun hf => ?_) (fun hf => ?_)
              · refine z_aload_n 0 dX11_pair_73 rfl rfl ?_
                refine z_iload_n 1 dX11_pair_74 rfl rfl ?_
                obtain ⟨v10, ev10, hf⟩ := ob hf
                refine z_cVi (ci := 11) (T := TX11) (N := 14) (As := [.int l1]) (rest := []) (zm_X11_whyUnpaired ev10).2 (zm_X11_whyUnpaired ev10).1 (by decide) rfl (Or.inl rfl) mw_31_17 mw_31_18 mw_31_19 mw_1_2 mw_31_20 yk_X11_whyUnpaired (by decide) (by decide) rfl (Nat.le_of_ble_eq_true rfl) rfl dX11_pair_75 ?_
                refine z_istore [(4, .int v10), (0, .ref l0), (1, .int l1), (2, .int l2), (3, .int l3)] dX11_pair_78 (by decide) rfl ?_
                refine z_iload 0 dX11_pair_80 rfl ?_
                refine z_if_ne 92 hf dX11_pair_82 (by decide) (fun hf => ?_) (fun hf => ?_)
                · refine z_lv [(0, .ref l0), (1, .int l1), (2, .int l2), (3, .int l3), (4, .int v10)] [1, 2, 3, 4, 0] rfl ?_
                  exact zb_X11_pair_92 hE hf
                · refine z_aload_n 1 dX11_pair_85 rfl rfl ?_
                  refine z_iload_n 3 dX11_pair_86 rfl rfl ?_
                  obtain ⟨v11, ev11, hf⟩ := ob hf
                  refine z_cVi (ci := 11) (T := TX11) (N := 14) (As := [.int l2]) (rest := []) (zm_X11_whyUnpaired ev11).2 (zm_X11_whyUnpaired ev11).1 (by decide) rfl (Or.inl rfl) mw_31_17 mw_31_18 mw_31_19 mw_1_2 mw_31_20 yk_X11_whyUnpaired (by decide) (by decide) rfl (Nat.le_of_ble_eq_true rfl) rfl dX11_pair_87 ?_
                  refine z_istore [(4, .int v11), (0, .ref l0), (1, .int l1), (2, .int l2), (3, .int l3)] dX11_pair_90 (by decide) rfl ?_
                  refine z_lv [(0, .ref l0), (1, .int l1), (2, .int l2), (3, .int l3), (4, .int v11)] [1, 2, 3, 4, 0] rfl ?_
                  exact zb_X11_pair_92 hE hf
              · refine z_aload_n 0 dX11_pair_66 rfl rfl ?_
                refine z_bipush (-3) (-3) dX11_pair_67 (by decide) ?_
                obtain ⟨v12, ev12, hf⟩ := ob hf
                refine z_cVi (ci := 11) (T := TX11) (N := 14) (As := [.int (-3 : Int32)]) (rest := []) (zm_X11_refuse ev12).2 (zm_X11_refuse ev12).1 (by decide) rfl (Or.inl rfl) mw_7_22 mw_7_23 mw_8_0 mw_1_2 mw_8_1 yk_X11_refuse (by decide) (by decide) rfl (Nat.le_of_ble_eq_true rfl) rfl dX11_pair_69 ?_
                cases hf
                exact z_ireturn hE rfl dX11_pair_72
            · refine z_lv [(0, .ref l0)] [0] rfl ?_
              exact zb_X11_pair_44 hE hf
  · cases hf
set_option maxRecDepth 20000 in
theorem zb_X11_part_24 {N : Nat} {sh : Sh} {r : Int32 × Dt} {E : EV} (hE : TG E (some (.int r.1)) (sh, r.2))  {l0 : Nat} {d : Dt} (hf : f_X11_part_24 N sh l0 d = some r) : Z E yX11_part cX11_part 3 (some .int) 3 (sh, d) 24 [(0, .ref l0)] [] := by
  unfold f_X11_part_24 at hf
  refine z_aload_n 0 dX11_part_24 rfl rfl ?_
  refine z_bipush (-2) (-2) dX11_part_25 (by decide) ?_
  obtain ⟨v8, ev8, hf⟩ := ob hf
  refine z_cVi (ci := 11) (T := TX11) (N := 14) (As := [.int (-2 : Int32)]) (rest := []) (zm_X11_refuse ev8).2 (zm_X11_refuse ev8).1 (by decide) rfl (Or.inl rfl) mw_7_22 mw_7_23 mw_8_0 mw_1_2 mw_8_1 yk_X11_refuse (by decide) (by decide) rfl (Nat.le_of_ble_eq_true rfl) rfl dX11_part_27 ?_
  cases hf
  exact z_ireturn hE rfl dX11_part_30
set_option maxRecDepth 20000 in
theorem zm_X11_part {N : Nat} {sh : Sh} {d : Dt} {l0 : Nat} {l1 : Int32} {l2 : Int32} {r : Int32 × Dt} (hf : f_X11_part N sh l0 l1 l2 d = some r) : isO sh l0 11 ∧ ∀ (l : Launch) (G : GG), Mt l G yX11_part cX11_part 3 (some .int) 3 [.ref l0, .int l1, .int l2] (sh, d) (some (.int r.1)) (sh, r.2) := by
  have hf0 := hf
  unfold f_X11_part at hf
  refine ite_d hf (fun hO hf => ?_) (fun _ hf => ?_)
  · refine ⟨hO, fun l G => mt_of (Or.inl (by decide)) (Nat.le_of_ble_eq_true rfl) Le.rf (fun E hE => ?_)⟩
    show Z E yX11_part cX11_part 3 (some .int) 3 (sh, d) 0 [(0, .ref l0), (1, .int l1), (2, .int l2)] []
    refine z_aload_n 0 dX11_part_0 rfl rfl ?_
    refine z_gP (ci := 11) (k := 1) (C := RX11) (T := TX11) (N := 14) rfl inlX11 (by decide) mw_1_19 (fun _ _ _ _ h9 => h9) hf (by decide) rfl dX11_part_1  (fun v1 hf => ?_)
    refine z_gP (ci := 1) (k := 3) (C := RX1) (T := TX1) (N := 8) rfl inlX1 (by decide) mw_29_16 (fun _ _ _ _ h9 => h9) hf (by decide) rfl dX11_part_4  (fun v2 hf => ?_)
    refine z_iload_n 1 dX11_part_7 rfl rfl ?_
    obtain ⟨v3, ev3, hf⟩ := ob hf
    refine z_cVi (ci := 8) (T := TX8) (N := 2) (As := [.int l1]) (rest := []) (zm_X8_has ev3).2 (zm_X8_has ev3).1 (by decide) rfl (Or.inl rfl) mw_13_22 mw_13_23 mw_14_0 mw_3_13 mw_14_1 yk_X8_has (by decide) (by decide) rfl (Nat.le_of_ble_eq_true rfl) rfl dX11_part_8 ?_
    refine z_if_eq 24 hf dX11_part_11 (by decide) (fun hf => ?_) (fun hf => ?_)
    · refine z_lv [(0, .ref l0)] [0] rfl ?_
      exact zb_X11_part_24 hE hf
    · refine z_iload_n 2 dX11_part_14 rfl rfl ?_
      refine z_if_lt 24 hf dX11_part_15 (by decide) (fun hf => ?_) (fun hf => ?_)
      · refine z_lv [(0, .ref l0)] [0] rfl ?_
        exact zb_X11_part_24 hE hf
      · refine z_iload_n 2 dX11_part_18 rfl rfl ?_
        refine z_bipush 9 9 dX11_part_19 (by decide) ?_
        refine z_icmp_lt 31 hf dX11_part_21 (by decide) (fun hf => ?_) (fun hf => ?_)
        · refine z_aload_n 0 dX11_part_31 rfl rfl ?_
          refine z_aload_n 0 dX11_part_32 rfl rfl ?_
          refine z_gP (ci := 11) (k := 1) (C := RX11) (T := TX11) (N := 14) rfl inlX11 (by decide) mw_1_19 (fun _ _ _ _ h9 => h9) hf (by decide) rfl dX11_part_33  (fun v4 hf => ?_)
          refine z_gP (ci := 1) (k := 3) (C := RX1) (T := TX1) (N := 8) rfl inlX1 (by decide) mw_29_16 (fun _ _ _ _ h9 => h9) hf (by decide) rfl dX11_part_36  (fun v5 hf => ?_)
          refine z_iload_n 1 dX11_part_39 rfl rfl ?_
          refine z_iload_n 2 dX11_part_40 rfl rfl ?_
          obtain ⟨v6, ev6, hf⟩ := ob hf
          refine z_cVi (ci := 8) (T := TX8) (N := 2) (As := [.int l1, .int l2]) (rest := [.ref l0]) (zm_X8_get ev6).2 (zm_X8_get ev6).1 (by decide) rfl (Or.inl rfl) mw_14_2 mw_10_11 mw_10_12 mw_3_13 mw_10_13 yk_X8_get (by decide) (by decide) rfl (Nat.le_of_ble_eq_true rfl) rfl dX11_part_41 ?_
          obtain ⟨v7, ev7, hf⟩ := ob hf
          refine z_cVi (ci := 11) (T := TX11) (N := 14) (As := [.int v6]) (rest := []) (zm_X11_answer ev7).2 (zm_X11_answer ev7).1 (by decide) rfl (Or.inl rfl) mw_11_2 mw_11_3 mw_11_4 mw_1_2 mw_11_5 yk_X11_answer (by decide) (by decide) rfl (Nat.le_of_ble_eq_true rfl) rfl dX11_part_44 ?_
          cases hf
          exact z_ireturn hE rfl dX11_part_47
        · refine z_lv [(0, .ref l0)] [0] rfl ?_
          exact zb_X11_part_24 hE hf
  · cases hf
set_option maxRecDepth 20000 in
theorem zb_X11_partner_33 {N : Nat} {sh : Sh} {r : Int32 × Dt} {E : EV} (hE : TG E (some (.int r.1)) (sh, r.2))  {t0 : Int32} {d : Dt} (hf : f_X11_partner_33 N sh t0 d = some r) : Z E yX11_partner cX11_partner 2 (some .int) 3 (sh, d) 33 [] [.int t0] := by
  unfold f_X11_partner_33 at hf
  cases hf
  exact z_ireturn hE rfl dX11_partner_33
set_option maxRecDepth 20000 in
theorem zm_X11_partner {N : Nat} {sh : Sh} {d : Dt} {l0 : Nat} {l1 : Int32} {r : Int32 × Dt} (hf : f_X11_partner N sh l0 l1 d = some r) : isO sh l0 11 ∧ ∀ (l : Launch) (G : GG), Mt l G yX11_partner cX11_partner 2 (some .int) 3 [.ref l0, .int l1] (sh, d) (some (.int r.1)) (sh, r.2) := by
  have hf0 := hf
  unfold f_X11_partner at hf
  refine ite_d hf (fun hO hf => ?_) (fun _ hf => ?_)
  · refine ⟨hO, fun l G => mt_of (Or.inl (by decide)) (Nat.le_of_ble_eq_true rfl) Le.rf (fun E hE => ?_)⟩
    show Z E yX11_partner cX11_partner 2 (some .int) 3 (sh, d) 0 [(0, .ref l0), (1, .int l1)] []
    refine z_aload_n 0 dX11_partner_0 rfl rfl ?_
    refine z_gP (ci := 11) (k := 1) (C := RX11) (T := TX11) (N := 14) rfl inlX11 (by decide) mw_1_19 (fun _ _ _ _ h9 => h9) hf (by decide) rfl dX11_partner_1  (fun v1 hf => ?_)
    refine z_iload_n 1 dX11_partner_4 rfl rfl ?_
    obtain ⟨v2, ev2, hf⟩ := ob hf
    refine z_cVi (ci := 1) (T := TX1) (N := 8) (As := [.int l1]) (rest := []) (zm_X1_hasCrossing ev2).2 (zm_X1_hasCrossing ev2).1 (by decide) rfl (Or.inl rfl) mw_12_14 mw_12_15 mw_12_16 mw_1_18 mw_12_17 yk_X1_hasCrossing (by decide) (by decide) rfl (Nat.le_of_ble_eq_true rfl) rfl dX11_partner_5 ?_
    refine z_if_eq 27 hf dX11_partner_8 (by decide) (fun hf => ?_) (fun hf => ?_)
    · refine z_aload_n 0 dX11_partner_27 rfl rfl ?_
      refine z_bipush (-2) (-2) dX11_partner_28 (by decide) ?_
      obtain ⟨v3, ev3, hf⟩ := ob hf
      refine z_cVi (ci := 11) (T := TX11) (N := 14) (As := [.int (-2 : Int32)]) (rest := []) (zm_X11_refuse ev3).2 (zm_X11_refuse ev3).1 (by decide) rfl (Or.inl rfl) mw_7_22 mw_7_23 mw_8_0 mw_1_2 mw_8_1 yk_X11_refuse (by decide) (by decide) rfl (Nat.le_of_ble_eq_true rfl) rfl dX11_partner_30 ?_
      refine z_lv [] [] rfl ?_
      exact zb_X11_partner_33 hE hf
    · refine z_aload_n 0 dX11_partner_11 rfl rfl ?_
      refine z_aload_n 0 dX11_partner_12 rfl rfl ?_
      refine z_gP (ci := 11) (k := 1) (C := RX11) (T := TX11) (N := 14) rfl inlX11 (by decide) mw_1_19 (fun _ _ _ _ h9 => h9) hf (by decide) rfl dX11_partner_13  (fun v4 hf => ?_)
      refine z_gP (ci := 1) (k := 6) (C := RX1) (T := TX1) (N := 8) rfl inlX1 (by decide) mw_52_14 (fun _ _ _ _ h9 => h9) hf (by decide) rfl dX11_partner_16  (fun v5 hf => ?_)
      refine z_iload_n 1 dX11_partner_19 rfl rfl ?_
      refine z_aI hf dX11_partner_20  (fun v6 hf => ?_)
      obtain ⟨v7, ev7, hf⟩ := ob hf
      refine z_cVi (ci := 11) (T := TX11) (N := 14) (As := [.int v6]) (rest := []) (zm_X11_answer ev7).2 (zm_X11_answer ev7).1 (by decide) rfl (Or.inl rfl) mw_11_2 mw_11_3 mw_11_4 mw_1_2 mw_11_5 yk_X11_answer (by decide) (by decide) rfl (Nat.le_of_ble_eq_true rfl) rfl dX11_partner_21 ?_
      refine z_goto 33 dX11_partner_24 (by decide) ?_
      refine z_lv [] [] rfl ?_
      exact zb_X11_partner_33 hE hf
  · cases hf
set_option maxRecDepth 20000 in
theorem le_X11_plough_20 {N : Nat} {r : Int32 × AS}  {l0 : Nat} {s : AS} (hf : f_X11_plough_20 N l0 s = some r) : Le s r.2 := by
  unfold f_X11_plough_20 at hf
  obtain ⟨v6, -, hf⟩ := ob hf
  cases hf
  exact Le.rf
set_option maxRecDepth 20000 in
theorem zb_X11_plough_20 {N : Nat} {r : Int32 × AS} {E : EV} (hE : TG E (some (.int r.1)) r.2)   {l0 : Nat} {s : AS} (hf : f_X11_plough_20 N l0 s = some r) : Z E yX11_plough cX11_plough 3 (some .int) 6 s 20 [(0, .ref l0)] [] := by
  unfold f_X11_plough_20 at hf
  refine z_aload_n 0 dX11_plough_20 rfl rfl ?_
  refine z_bipush (-2) (-2) dX11_plough_21 (by decide) ?_
  obtain ⟨v6, ev6, hf⟩ := ob hf
  refine z_cVi (ci := 11) (T := TX11) (N := 14) (As := [.int (-2 : Int32)]) (rest := []) (zm_X11_refuse ev6).2 (zm_X11_refuse ev6).1 (by decide) rfl (Or.inl rfl) mw_7_22 mw_7_23 mw_8_0 mw_1_2 mw_8_1 yk_X11_refuse (by decide) (by decide) rfl (Nat.le_of_ble_eq_true rfl) rfl dX11_plough_23 ?_
  cases hf
  exact z_ireturn hE rfl dX11_plough_26
set_option maxRecDepth 20000 in
theorem le_X11_plough_65 {N : Nat} {r : Int32 × AS}  {t0 : Nat} {t1 : Int32} {s : AS} (hf : f_X11_plough_65 N t0 t1 s = some r) : Le s r.2 := by
  unfold f_X11_plough_65 at hf
  obtain ⟨v9, -, hf⟩ := ob hf
  cases hf
  exact Le.rf
set_option maxRecDepth 20000 in
theorem zb_X11_plough_65 {N : Nat} {r : Int32 × AS} {E : EV} (hE : TG E (some (.int r.1)) r.2)   {t0 : Nat} {t1 : Int32} {s : AS} (hf : f_X11_plough_65 N t0 t1 s = some r) : Z E yX11_plough cX11_plough 3 (some .int) 6 s 65 [] [.int t1, .ref t0] := by
  unfold f_X11_plough_65 at hf
  obtain ⟨v9, ev9, hf⟩ := ob hf
  refine z_cVi (ci := 11) (T := TX11) (N := 14) (As := [.int t1]) (rest := []) (zm_X11_answer ev9).2 (zm_X11_answer ev9).1 (by decide) rfl (Or.inl rfl) mw_11_2 mw_11_3 mw_11_4 mw_1_2 mw_11_5 yk_X11_answer (by decide) (by decide) rfl (Nat.le_of_ble_eq_true rfl) rfl dX11_plough_65 ?_
  cases hf
  exact z_ireturn hE rfl dX11_plough_68
set_option maxRecDepth 20000 in
theorem le_X11_plough_60 {N : Nat} {r : Int32 × AS}  {l1 : Int32} {l2 : Int32} {t0 : Nat} {t1 : Nat} {t2 : Nat} {s : AS} (hf : f_X11_plough_60 N l1 l2 t0 t1 t2 s = some r) : Le s r.2 := by
  unfold f_X11_plough_60 at hf
  obtain ⟨v8, ev8, hf⟩ := ob hf
  refine Le.of (t := (s.1, s.2)) rfl ((lm_X11_enlist ev8).tr ?_)
  exact Le.via (le_X11_plough_65 hf) rfl
set_option maxRecDepth 20000 in
theorem zb_X11_plough_60 {N : Nat} {r : Int32 × AS} {E : EV} (hE : TG E (some (.int r.1)) r.2)   {l1 : Int32} {l2 : Int32} {t0 : Nat} {t1 : Nat} {t2 : Nat} {s : AS} (hf : f_X11_plough_60 N l1 l2 t0 t1 t2 s = some r) : Z E yX11_plough cX11_plough 3 (some .int) 6 s 60 [(1, .int l1), (2, .int l2)] [.ref t2, .ref t1, .ref t0] := by
  unfold f_X11_plough_60 at hf
  refine z_iload_n 0 dX11_plough_60 rfl rfl ?_
  refine z_iload_n 1 dX11_plough_61 rfl rfl ?_
  obtain ⟨v8, ev8, hf⟩ := ob hf
  refine z_cVi (ci := 11) (T := TX11) (N := 14) (As := [.ref t2, .int l1, .int l2]) (rest := [.ref t0]) (zm_X11_enlist ev8).2 (zm_X11_enlist ev8).1 (by decide) rfl (Or.inr (tg_le hE (le_X11_plough_65 hf))) mw_30_18 mw_30_19 mw_30_20 mw_1_2 mw_30_21 yk_X11_enlist (by decide) (by decide) rfl (Nat.le_of_ble_eq_true rfl) rfl dX11_plough_62 ?_
  refine z_lv [] [] rfl ?_
  exact zb_X11_plough_65 hE hf
set_option maxRecDepth 20000 in
theorem le_X11_plough_53 {N : Nat} {r : Int32 × AS}  {l0 : Nat} {l1 : Int32} {l2 : Int32} {s : AS} (hf : f_X11_plough_53 N l0 l1 l2 s = some r) : Le s r.2 := by
  unfold f_X11_plough_53 at hf
  obtain ⟨v7, ev7, hf⟩ := ob hf
  refine Le.of (t := (s.1, s.2)) rfl ((lm_X11_bodyOf ev7).tr ?_)
  exact Le.via (le_X11_plough_60 hf) rfl
set_option maxRecDepth 20000 in
theorem zb_X11_plough_53 {N : Nat} {r : Int32 × AS} {E : EV} (hE : TG E (some (.int r.1)) r.2)   {l0 : Nat} {l1 : Int32} {l2 : Int32} {s : AS} (hf : f_X11_plough_53 N l0 l1 l2 s = some r) : Z E yX11_plough cX11_plough 3 (some .int) 6 s 53 [(0, .ref l0), (1, .int l1), (2, .int l2)] [] := by
  unfold f_X11_plough_53 at hf
  refine z_aload_n 0 dX11_plough_53 rfl rfl ?_
  refine z_aload_n 0 dX11_plough_54 rfl rfl ?_
  refine z_aload_n 0 dX11_plough_55 rfl rfl ?_
  refine z_iload_n 1 dX11_plough_56 rfl rfl ?_
  obtain ⟨v7, ev7, hf⟩ := ob hf
  refine z_cVr (ci := 11) (T := TX11) (N := 14) (As := [.int l1]) (rest := [.ref l0, .ref l0]) (zm_X11_bodyOf ev7).2 (zm_X11_bodyOf ev7).1 (by decide) rfl (Or.inr (tg_le hE (le_X11_plough_60 hf))) mw_29_17 mw_29_18 mw_29_19 mw_1_2 mw_29_20 yk_X11_bodyOf (by decide) (by decide) rfl (Nat.le_of_ble_eq_true rfl) rfl dX11_plough_57 ?_
  refine z_lv [(1, .int l1), (2, .int l2)] [1, 2] rfl ?_
  exact zb_X11_plough_60 hE hf
set_option maxRecDepth 20000 in
theorem lm_X11_plough {N : Nat} {s : AS} {l0 : Nat} {l1 : Int32} {l2 : Int32} {r : Int32 × AS} (hf : f_X11_plough N l0 l1 l2 s = some r) : Le s r.2 := by
  unfold f_X11_plough at hf
  refine ite_c hf (fun hf => ?_) (fun hf => ?_)
  · skip
    refine ite_c hf (fun hf => ?_) (fun hf => ?_)
    · exact Le.via (le_X11_plough_20 hf) rfl
    · refine ite_c hf (fun hf => ?_) (fun hf => ?_)
      · exact Le.via (le_X11_plough_20 hf) rfl
      · refine ite_c hf (fun hf => ?_) (fun hf => ?_)
        · exact Le.via (le_X11_plough_20 hf) rfl
        · refine ite_c hf (fun hf => ?_) (fun hf => ?_)
          · obtain ⟨v1, -, hf⟩ := ob hf
            obtain ⟨v2, -, hf⟩ := ob hf
            obtain ⟨v3, -, hf⟩ := ob hf
            refine ite_c hf (fun hf => ?_) (fun hf => ?_)
            · obtain ⟨v4, ev4, hf⟩ := ob hf
              refine Le.of (t := (s.1, s.2)) rfl ((lm_X11_change ev4).tr ?_)
              exact Le.via (le_X11_plough_53 hf) rfl
            · obtain ⟨v5, -, hf⟩ := ob hf
              cases hf
              exact Le.rf
          · exact Le.via (le_X11_plough_20 hf) rfl
  · cases hf
set_option maxRecDepth 20000 in
theorem zm_X11_plough {N : Nat} {s : AS} {l0 : Nat} {l1 : Int32} {l2 : Int32} {r : Int32 × AS} (hf : f_X11_plough N l0 l1 l2 s = some r) : isO s.1 l0 11 ∧ ∀ (l : Launch) (G : GG), Mt l G yX11_plough cX11_plough 3 (some .int) 6 [.ref l0, .int l1, .int l2] s (some (.int r.1)) r.2 := by
  have hf0 := hf
  unfold f_X11_plough at hf
  refine ite_d hf (fun hO hf => ?_) (fun _ hf => ?_)
  · refine ⟨hO, fun l G => mt_of (Or.inl (by decide)) (Nat.le_of_ble_eq_true rfl) (lm_X11_plough hf0) (fun E hE => ?_)⟩
    show Z E yX11_plough cX11_plough 3 (some .int) 6 s 0 [(0, .ref l0), (1, .int l1), (2, .int l2)] []
    refine z_iload_n 1 dX11_plough_0 rfl rfl ?_
    refine z_if_lt 20 hf dX11_plough_1 (by decide) (fun hf => ?_) (fun hf => ?_)
    · refine z_lv [(0, .ref l0)] [0] rfl ?_
      exact zb_X11_plough_20 hE hf
    · refine z_iload_n 1 dX11_plough_4 rfl rfl ?_
      refine z_iconst 3 3 dX11_plough_5 (by decide) ?_
      refine z_icmp_gt 20 hf dX11_plough_6 (by decide) (fun hf => ?_) (fun hf => ?_)
      · refine z_lv [(0, .ref l0)] [0] rfl ?_
        exact zb_X11_plough_20 hE hf
      · refine z_iload_n 2 dX11_plough_9 rfl rfl ?_
        refine z_if_lt 20 hf dX11_plough_10 (by decide) (fun hf => ?_) (fun hf => ?_)
        · refine z_lv [(0, .ref l0)] [0] rfl ?_
          exact zb_X11_plough_20 hE hf
        · refine z_iload_n 2 dX11_plough_13 rfl rfl ?_
          refine z_sipush 10000 10000 dX11_plough_14 (by decide) ?_
          refine z_icmp_le 27 hf dX11_plough_17 (by decide) (fun hf => ?_) (fun hf => ?_)
          · refine z_aload_n 0 dX11_plough_27 rfl rfl ?_
            refine z_gP (ci := 11) (k := 1) (C := RX11) (T := TX11) (N := 14) rfl inlX11 (by decide) mw_1_19 (fun _ _ _ _ h9 => h9) hf (by decide) rfl dX11_plough_28  (fun v1 hf => ?_)
            refine z_gP (ci := 1) (k := 3) (C := RX1) (T := TX1) (N := 8) rfl inlX1 (by decide) mw_29_16 (fun _ _ _ _ h9 => h9) hf (by decide) rfl dX11_plough_31  (fun v2 hf => ?_)
            refine z_gI (ci := 8) (k := 1) (C := RX8) (T := TX8) (N := 2) rfl inlX8 (by decide) mw_12_13 (fun _ _ _ _ h9 => h9) hf (by decide) rfl dX11_plough_34  (fun v3 hf => ?_)
            refine z_bipush 12 12 dX11_plough_37 (by decide) ?_
            refine z_icmp_lt 49 hf dX11_plough_39 (by decide) (fun hf => ?_) (fun hf => ?_)
            · refine z_aload_n 0 dX11_plough_49 rfl rfl ?_
              obtain ⟨v4, ev4, hf⟩ := ob hf
              refine z_cVv (ci := 11) (T := TX11) (N := 14) (As := []) (rest := []) (zm_X11_change ev4).2 (zm_X11_change ev4).1 (by decide) rfl (Or.inr (tg_le hE (le_X11_plough_53 hf))) mw_8_7 mw_8_8 mw_8_9 mw_1_2 mw_8_10 yk_X11_change (by decide) (by decide) rfl (Nat.le_of_ble_eq_true rfl) rfl dX11_plough_50 ?_
              exact zb_X11_plough_53 hE hf
            · refine z_aload_n 0 dX11_plough_42 rfl rfl ?_
              refine z_bipush (-3) (-3) dX11_plough_43 (by decide) ?_
              obtain ⟨v5, ev5, hf⟩ := ob hf
              refine z_cVi (ci := 11) (T := TX11) (N := 14) (As := [.int (-3 : Int32)]) (rest := []) (zm_X11_refuse ev5).2 (zm_X11_refuse ev5).1 (by decide) rfl (Or.inl rfl) mw_7_22 mw_7_23 mw_8_0 mw_1_2 mw_8_1 yk_X11_refuse (by decide) (by decide) rfl (Nat.le_of_ble_eq_true rfl) rfl dX11_plough_45 ?_
              cases hf
              exact z_ireturn hE rfl dX11_plough_48
          · refine z_lv [(0, .ref l0)] [0] rfl ?_
            exact zb_X11_plough_20 hE hf
  · cases hf
set_option maxRecDepth 20000 in
theorem le_X11_put_41 {N : Nat} {r : AS}  {l0 : Nat} {l1 : Int32} {s : AS} (hf : f_X11_put_41 N l0 l1 s = some r) : Le s r := by
  unfold f_X11_put_41 at hf
  obtain ⟨v7, -, hf⟩ := ob hf
  obtain ⟨v8, -, hf⟩ := ob hf
  obtain ⟨d9, -, hf⟩ := ob hf
  obtain ⟨v10, -, hf⟩ := ob hf
  obtain ⟨d11, -, hf⟩ := ob hf
  cases hf
  exact Le.rf
set_option maxRecDepth 20000 in
theorem zb_X11_put_41 {N : Nat} {r : AS} {E : EV} (hE : TG E none r)   {l0 : Nat} {l1 : Int32} {s : AS} (hf : f_X11_put_41 N l0 l1 s = some r) : Z E yX11_put cX11_put 3 none 1 s 41 [(0, .ref l0), (1, .int l1)] [] := by
  unfold f_X11_put_41 at hf
  refine z_aload_n 0 dX11_put_41 rfl rfl ?_
  refine z_gQ (ci := 11) (k := 11) (C := RX11) (T := TX11) (N := 14) rfl inlX11 (by decide) mw_2_18 (fun _ _ _ _ h9 => h9) hf (by decide) rfl dX11_put_42  (fun v7 hf => ?_)
  refine z_aload_n 0 dX11_put_45 rfl rfl ?_
  refine z_gI (ci := 11) (k := 12) (C := RX11) (T := TX11) (N := 14) rfl inlX11 (by decide) mw_2_19 (fun _ _ _ _ h9 => h9) hf (by decide) rfl dX11_put_46  (fun v8 hf => ?_)
  refine z_iload_n 1 dX11_put_49 rfl rfl ?_
  refine z_sC hf dX11_put_50  (fun d9 hf => ?_)
  refine z_aload_n 0 dX11_put_51 rfl rfl ?_
  refine z_dup dX11_put_52 rfl ?_
  refine z_gI (ci := 11) (k := 12) (C := RX11) (T := TX11) (N := 14) rfl inlX11 (by decide) mw_2_19 (fun _ _ _ _ h9 => h9) hf (by decide) rfl dX11_put_53  (fun v10 hf => ?_)
  refine z_iconst 1 1 dX11_put_56 (by decide) ?_
  refine z_iadd dX11_put_57 ?_
  refine z_pI (ci := 11) (k := 12) (C := RX11) (T := TX11) (N := 14) rfl inlX11 (by decide) mw_2_19 (fun _ _ _ _ h9 => h9) tyX11 tyX11_ok nmX11 rfl hf (Or.inl (by decide)) rfl rfl rfl dX11_put_58  (fun d11 hf => ?_)
  cases hf
  exact z_return hE rfl dX11_put_61
set_option maxRecDepth 20000 in
theorem le_X11_put_21 {N : Nat} {r : AS}  {l0 : Nat} {l1 : Int32} {t0 : Nat} {s : AS} (hf : f_X11_put_21 N l0 l1 t0 s = some r) : Le s r := by
  unfold f_X11_put_21 at hf
  obtain ⟨v12, -, hf⟩ := ob hf
  obtain ⟨v13, -, hf⟩ := ob hf
  obtain ⟨d14, -, hf⟩ := ob hf
  obtain ⟨d15, -, hf⟩ := ob hf
  exact Le.via (le_X11_put_41 hf) rfl
set_option maxRecDepth 20000 in
theorem zb_X11_put_21 {N : Nat} {r : AS} {E : EV} (hE : TG E none r)   {l0 : Nat} {l1 : Int32} {t0 : Nat} {s : AS} (hf : f_X11_put_21 N l0 l1 t0 s = some r) : Z E yX11_put cX11_put 3 none 1 s 21 [(0, .ref l0), (1, .int l1)] [.ref t0] := by
  unfold f_X11_put_21 at hf
  refine z_astore_n [(2, .ref t0), (0, .ref l0), (1, .int l1)] dX11_put_21 rfl (by decide) rfl ?_
  refine z_aload_n 1 dX11_put_22 rfl rfl ?_
  refine z_gQ (ci := 11) (k := 11) (C := RX11) (T := TX11) (N := 14) rfl inlX11 (by decide) mw_2_18 (fun _ _ _ _ h9 => h9) hf (by decide) rfl dX11_put_23  (fun v12 hf => ?_)
  refine z_iconst 0 0 dX11_put_26 (by decide) ?_
  refine z_aload_n 0 dX11_put_27 rfl rfl ?_
  refine z_iconst 0 0 dX11_put_28 (by decide) ?_
  refine z_aload_n 1 dX11_put_29 rfl rfl ?_
  refine z_gI (ci := 11) (k := 12) (C := RX11) (T := TX11) (N := 14) rfl inlX11 (by decide) mw_2_19 (fun _ _ _ _ h9 => h9) hf (by decide) rfl dX11_put_30  (fun v13 hf => ?_)
  refine z_cpy hf mw_56_22 mw_8_16 mw_8_17 mw_8_18 (by decide) (Nat.le_of_ble_eq_true rfl) dX11_put_33 (fun d14 hf => ?_)
  refine z_aload_n 1 dX11_put_36 rfl rfl ?_
  refine z_aload_n 0 dX11_put_37 rfl rfl ?_
  refine z_pQ (ci := 11) (k := 11) (C := RX11) (T := TX11) (N := 14) rfl inlX11 (by decide) mw_2_18 (fun _ _ _ _ h9 => h9) tyX11 tyX11_ok nmX11 rfl hf (by decide) rfl rfl rfl dX11_put_38  (fun d15 hf => ?_)
  refine z_lv [(0, .ref l0), (1, .int l1)] [1, 2] rfl ?_
  exact zb_X11_put_41 hE hf
set_option maxRecDepth 20000 in
theorem lm_X11_put {N : Nat} {s : AS} {l0 : Nat} {l1 : Int32} {r : AS} (hf : f_X11_put N l0 l1 s = some r) : Le s r := by
  unfold f_X11_put at hf
  refine ite_c hf (fun hf => ?_) (fun hf => ?_)
  · skip
    obtain ⟨v1, -, hf⟩ := ob hf
    obtain ⟨v2, -, hf⟩ := ob hf
    obtain ⟨v3, -, hf⟩ := ob hf
    refine ite_c hf (fun hf => ?_) (fun hf => ?_)
    · exact Le.via (le_X11_put_41 hf) rfl
    · obtain ⟨v4, -, hf⟩ := ob hf
      obtain ⟨v5, -, hf⟩ := ob hf
      obtain ⟨s6, es6, hf⟩ := ob hf
      refine Le.of (t := (s.1, s.2)) rfl ((le_nArr es6).tr ?_)
      exact Le.via (le_X11_put_21 hf) rfl
  · cases hf
set_option maxRecDepth 20000 in
theorem zm_X11_put {N : Nat} {s : AS} {l0 : Nat} {l1 : Int32} {r : AS} (hf : f_X11_put N l0 l1 s = some r) : isO s.1 l0 11 ∧ ∀ (l : Launch) (G : GG), Mt l G yX11_put cX11_put 3 none 1 [.ref l0, .int l1] s none r := by
  have hf0 := hf
  unfold f_X11_put at hf
  refine ite_d hf (fun hO hf => ?_) (fun _ hf => ?_)
  · refine ⟨hO, fun l G => mt_of (Or.inl (by decide)) (Nat.le_of_ble_eq_true rfl) (lm_X11_put hf0) (fun E hE => ?_)⟩
    show Z E yX11_put cX11_put 3 none 1 s 0 [(0, .ref l0), (1, .int l1)] []
    refine z_aload_n 0 dX11_put_0 rfl rfl ?_
    refine z_gI (ci := 11) (k := 12) (C := RX11) (T := TX11) (N := 14) rfl inlX11 (by decide) mw_2_19 (fun _ _ _ _ h9 => h9) hf (by decide) rfl dX11_put_1  (fun v1 hf => ?_)
    refine z_aload_n 0 dX11_put_4 rfl rfl ?_
    refine z_gQ (ci := 11) (k := 11) (C := RX11) (T := TX11) (N := 14) rfl inlX11 (by decide) mw_2_18 (fun _ _ _ _ h9 => h9) hf (by decide) rfl dX11_put_5  (fun v2 hf => ?_)
    refine z_aLen hf dX11_put_8  (fun v3 hf => ?_)
    refine z_icmp_lt 41 hf dX11_put_9 (by decide) (fun hf => ?_) (fun hf => ?_)
    · exact zb_X11_put_41 hE hf
    · refine z_iconst 2 2 dX11_put_12 (by decide) ?_
      refine z_aload_n 0 dX11_put_13 rfl rfl ?_
      refine z_gQ (ci := 11) (k := 11) (C := RX11) (T := TX11) (N := 14) rfl inlX11 (by decide) mw_2_18 (fun _ _ _ _ h9 => h9) hf (by decide) rfl dX11_put_14  (fun v4 hf => ?_)
      refine z_aLen hf dX11_put_17  (fun v5 hf => ?_)
      refine z_imul dX11_put_18 ?_
      refine z_na3 hf (fun _ hf => tg_le hE (le_X11_put_21 hf)) mw_2_17 dX11_put_19 (fun s6 hf => ?_)
      exact zb_X11_put_21 hE hf
  · cases hf
set_option maxRecDepth 20000 in
theorem zb_X11_read_56 {N : Nat} {sh : Sh} {r : Int32 × Dt} {E : EV} (hE : TG E (some (.int r.1)) (sh, r.2))  {t0 : Int32} {d : Dt} (hf : f_X11_read_56 N sh t0 d = some r) : Z E yX11_read cX11_read 4 (some .int) 5 (sh, d) 56 [] [.int t0] := by
  unfold f_X11_read_56 at hf
  cases hf
  exact z_ireturn hE rfl dX11_read_56
set_option maxRecDepth 20000 in
theorem zm_X11_read {N : Nat} {sh : Sh} {d : Dt} {l0 : Nat} {l1 : Int32} {l2 : Int32} {r : Int32 × Dt} (hf : f_X11_read N sh l0 l1 l2 d = some r) : isO sh l0 11 ∧ ∀ (l : Launch) (G : GG), Mt l G yX11_read cX11_read 4 (some .int) 5 [.ref l0, .int l1, .int l2] (sh, d) (some (.int r.1)) (sh, r.2) := by
  have hf0 := hf
  unfold f_X11_read at hf
  refine ite_d hf (fun hO hf => ?_) (fun _ hf => ?_)
  · refine ⟨hO, fun l G => mt_of (Or.inl (by decide)) (Nat.le_of_ble_eq_true rfl) Le.rf (fun E hE => ?_)⟩
    show Z E yX11_read cX11_read 4 (some .int) 5 (sh, d) 0 [(0, .ref l0), (1, .int l1), (2, .int l2)] []
    refine z_aload_n 0 dX11_read_0 rfl rfl ?_
    refine z_gP (ci := 11) (k := 1) (C := RX11) (T := TX11) (N := 14) rfl inlX11 (by decide) mw_1_19 (fun _ _ _ _ h9 => h9) hf (by decide) rfl dX11_read_1  (fun v1 hf => ?_)
    refine z_gP (ci := 1) (k := 2) (C := RX1) (T := TX1) (N := 8) rfl inlX1 (by decide) mw_19_21 (fun _ _ _ _ h9 => h9) hf (by decide) rfl dX11_read_4  (fun v2 hf => ?_)
    refine z_iload_n 1 dX11_read_7 rfl rfl ?_
    obtain ⟨v3, ev3, hf⟩ := ob hf
    refine z_cVi (ci := 8) (T := TX8) (N := 2) (As := [.int l1]) (rest := []) (zm_X8_has ev3).2 (zm_X8_has ev3).1 (by decide) rfl (Or.inl rfl) mw_13_22 mw_13_23 mw_14_0 mw_3_13 mw_14_1 yk_X8_has (by decide) (by decide) rfl (Nat.le_of_ble_eq_true rfl) rfl dX11_read_8 ?_
    refine z_if_ne 21 hf dX11_read_11 (by decide) (fun hf => ?_) (fun hf => ?_)
    · refine z_aload_n 0 dX11_read_21 rfl rfl ?_
      refine z_gP (ci := 11) (k := 1) (C := RX11) (T := TX11) (N := 14) rfl inlX11 (by decide) mw_1_19 (fun _ _ _ _ h9 => h9) hf (by decide) rfl dX11_read_22  (fun v4 hf => ?_)
      refine z_iload_n 1 dX11_read_25 rfl rfl ?_
      refine z_iload_n 2 dX11_read_26 rfl rfl ?_
      obtain ⟨v5, ev5, hf⟩ := ob hf
      refine z_cVi (ci := 1) (T := TX1) (N := 8) (As := [.int l1, .int l2]) (rest := []) (zm_X1_whyUnread ev5).2 (zm_X1_whyUnread ev5).1 (by decide) rfl (Or.inl rfl) mw_22_18 mw_22_19 mw_22_20 mw_1_18 mw_22_21 yk_X1_whyUnread (by decide) (by decide) rfl (Nat.le_of_ble_eq_true rfl) rfl dX11_read_27 ?_
      refine z_istore_n [(3, .int v5), (0, .ref l0), (1, .int l1), (2, .int l2)] dX11_read_30 rfl (by decide) rfl ?_
      refine z_iload_n 0 dX11_read_31 rfl rfl ?_
      refine z_if_eq 43 hf dX11_read_32 (by decide) (fun hf => ?_) (fun hf => ?_)
      · refine z_aload_n 1 dX11_read_43 rfl rfl ?_
        refine z_aload_n 1 dX11_read_44 rfl rfl ?_
        refine z_gP (ci := 11) (k := 1) (C := RX11) (T := TX11) (N := 14) rfl inlX11 (by decide) mw_1_19 (fun _ _ _ _ h9 => h9) hf (by decide) rfl dX11_read_45  (fun v6 hf => ?_)
        refine z_iload_n 2 dX11_read_48 rfl rfl ?_
        refine z_iload_n 3 dX11_read_49 rfl rfl ?_
        obtain ⟨v7, ev7, hf⟩ := ob hf
        refine z_cVi (ci := 1) (T := TX1) (N := 8) (As := [.int l1, .int l2]) (rest := [.ref l0]) (zm_X1_tenths ev7).2 (zm_X1_tenths ev7).1 (by decide) rfl (Or.inl rfl) mw_24_2 mw_24_3 mw_24_4 mw_1_18 mw_24_5 yk_X1_tenths (by decide) (by decide) rfl (Nat.le_of_ble_eq_true rfl) rfl dX11_read_50 ?_
        obtain ⟨v8, ev8, hf⟩ := ob hf
        refine z_cVi (ci := 11) (T := TX11) (N := 14) (As := [.int v7]) (rest := []) (zm_X11_answer ev8).2 (zm_X11_answer ev8).1 (by decide) rfl (Or.inl rfl) mw_11_2 mw_11_3 mw_11_4 mw_1_2 mw_11_5 yk_X11_answer (by decide) (by decide) rfl (Nat.le_of_ble_eq_true rfl) rfl dX11_read_53 ?_
        refine z_lv [] [] rfl ?_
        exact zb_X11_read_56 hE hf
      · refine z_aload_n 1 dX11_read_35 rfl rfl ?_
        refine z_iload_n 0 dX11_read_36 rfl rfl ?_
        obtain ⟨v9, ev9, hf⟩ := ob hf
        refine z_cVi (ci := 11) (T := TX11) (N := 14) (As := [.int v5]) (rest := []) (zm_X11_refuse ev9).2 (zm_X11_refuse ev9).1 (by decide) rfl (Or.inl rfl) mw_7_22 mw_7_23 mw_8_0 mw_1_2 mw_8_1 yk_X11_refuse (by decide) (by decide) rfl (Nat.le_of_ble_eq_true rfl) rfl dX11_read_37 ?_
        refine z_goto 56 dX11_read_40 (by decide) ?_
        refine z_lv [] [] rfl ?_
        exact zb_X11_read_56 hE hf
    · refine z_aload_n 0 dX11_read_14 rfl rfl ?_
      refine z_bipush (-2) (-2) dX11_read_15 (by decide) ?_
      obtain ⟨v10, ev10, hf⟩ := ob hf
      refine z_cVi (ci := 11) (T := TX11) (N := 14) (As := [.int (-2 : Int32)]) (rest := []) (zm_X11_refuse ev10).2 (zm_X11_refuse ev10).1 (by decide) rfl (Or.inl rfl) mw_7_22 mw_7_23 mw_8_0 mw_1_2 mw_8_1 yk_X11_refuse (by decide) (by decide) rfl (Nat.le_of_ble_eq_true rfl) rfl dX11_read_17 ?_
      cases hf
      exact z_ireturn hE rfl dX11_read_20
  · cases hf
set_option maxRecDepth 20000 in
theorem zb_X11_readGauges_65 {N : Nat} {sh : Sh} {r : Dt} {E : EV} (hE : TG E none (sh, r))   {d : Dt} (hf : f_X11_readGauges_65 N sh  d = some r) : Z E yX11_readGauges cX11_readGauges 4 none 4 (sh, d) 65 [] [] := by
  unfold f_X11_readGauges_65 at hf
  cases hf
  exact z_return hE rfl dX11_readGauges_65
set_option maxRecDepth 20000 in
theorem zb_X11_readGauges_58 {N : Nat} {sh : Sh} {k2 : Nat → Int32 → Int32 → Dt → Option Dt} {r : Dt} {E : EV} (hE : TG E none (sh, r)) (hk2 : ∀ (l0 : Nat) (l1 : Int32) (l2 : Int32) (d : Dt), k2 l0 l1 l2 d = some r → Z E yX11_readGauges cX11_readGauges 4 none 4 (sh, d) 2 [(0, .ref l0), (1, .int l1), (2, .int l2)] []) {l0 : Nat} {l1 : Int32} {l2 : Int32} {t0 : Nat} {t1 : Int32} {t2 : UInt32} {d : Dt} (hf : f_X11_readGauges_58 N sh k2 l0 l1 l2 t0 t1 t2 d = some r) : Z E yX11_readGauges cX11_readGauges 4 none 4 (sh, d) 58 [(0, .ref l0), (1, .int l1), (2, .int l2)] [.float t2, .int t1, .ref t0] := by
  unfold f_X11_readGauges_58 at hf
  refine z_sF hf dX11_readGauges_58  (fun d11 hf => ?_)
  refine z_iinc [(2, .int (l2 + 1)), (0, .ref l0), (1, .int l1)] 2 (l2 + 1) dX11_readGauges_59 rfl rfl (by decide) rfl ?_
  refine z_goto 2 dX11_readGauges_62 (by decide) ?_
  refine z_lv [(0, .ref l0), (1, .int l1), (2, .int (l2 + 1))] [1, 2, 0] rfl ?_
  exact hk2 _ _ _ _ hf
set_option maxRecDepth 20000 in
theorem zg_X11_readGauges_2 {N : Nat} {sh : Sh} {r : Dt} {k2 : Nat → Int32 → Int32 → Dt → Option Dt} {E : EV} (hE : TG E none (sh, r))  (hk2 : ∀ (l0 : Nat) (l1 : Int32) (l2 : Int32) (d : Dt), k2 l0 l1 l2 d = some r → Z E yX11_readGauges cX11_readGauges 4 none 4 (sh, d) 2 [(0, .ref l0), (1, .int l1), (2, .int l2)] []) {l0 : Nat} {l1 : Int32} {l2 : Int32} {d : Dt} (hf : g_X11_readGauges_2 N sh k2 l0 l1 l2 d = some r) : Z E yX11_readGauges cX11_readGauges 4 none 4 (sh, d) 2 [(0, .ref l0), (1, .int l1), (2, .int l2)] [] := by
  unfold g_X11_readGauges_2 at hf
  refine z_iload_n 2 dX11_readGauges_2 rfl rfl ?_
  refine z_aload_n 0 dX11_readGauges_3 rfl rfl ?_
  refine z_gP (ci := 11) (k := 1) (C := RX11) (T := TX11) (N := 14) rfl inlX11 (by decide) mw_1_19 (fun _ _ _ _ h9 => h9) hf (by decide) rfl dX11_readGauges_4  (fun v1 hf => ?_)
  refine z_gP (ci := 1) (k := 2) (C := RX1) (T := TX1) (N := 8) rfl inlX1 (by decide) mw_19_21 (fun _ _ _ _ h9 => h9) hf (by decide) rfl dX11_readGauges_7  (fun v2 hf => ?_)
  refine z_gI (ci := 8) (k := 1) (C := RX8) (T := TX8) (N := 2) rfl inlX8 (by decide) mw_12_13 (fun _ _ _ _ h9 => h9) hf (by decide) rfl dX11_readGauges_10  (fun v3 hf => ?_)
  refine z_icmp_ge 65 hf dX11_readGauges_13 (by decide) (fun hf => ?_) (fun hf => ?_)
  · refine z_lv [] [] rfl ?_
    exact zb_X11_readGauges_65 hE hf
  · refine z_aload_n 0 dX11_readGauges_16 rfl rfl ?_
    refine z_gP (ci := 11) (k := 1) (C := RX11) (T := TX11) (N := 14) rfl inlX11 (by decide) mw_1_19 (fun _ _ _ _ h9 => h9) hf (by decide) rfl dX11_readGauges_17  (fun v4 hf => ?_)
    refine z_iload_n 2 dX11_readGauges_20 rfl rfl ?_
    refine z_iload_n 1 dX11_readGauges_21 rfl rfl ?_
    obtain ⟨v5, ev5, hf⟩ := ob hf
    refine z_cVi (ci := 1) (T := TX1) (N := 8) (As := [.int l2, .int l1]) (rest := []) (zm_X1_whyUnread ev5).2 (zm_X1_whyUnread ev5).1 (by decide) rfl (Or.inl rfl) mw_22_18 mw_22_19 mw_22_20 mw_1_18 mw_22_21 yk_X1_whyUnread (by decide) (by decide) rfl (Nat.le_of_ble_eq_true rfl) rfl dX11_readGauges_22 ?_
    refine z_istore_n [(3, .int v5), (0, .ref l0), (1, .int l1), (2, .int l2)] dX11_readGauges_25 rfl (by decide) rfl ?_
    refine z_aload_n 1 dX11_readGauges_26 rfl rfl ?_
    refine z_gP (ci := 11) (k := 0) (C := RX11) (T := TX11) (N := 14) rfl inlX11 (by decide) mw_1_15 (fun _ _ _ _ h9 => h9) hf (by decide) rfl dX11_readGauges_27  (fun v6 hf => ?_)
    refine z_iload_n 0 dX11_readGauges_30 rfl rfl ?_
    obtain ⟨v7, ev7, hf⟩ := ob hf
    refine z_cVv (ci := 2) (T := TX2) (N := 4) (As := [.int v5]) (rest := []) (zm_X2_find ev7).2 (zm_X2_find ev7).1 (by decide) rfl (Or.inl rfl) mw_8_3 mw_8_4 mw_8_5 mw_1_14 mw_8_6 yk_X2_find (by decide) (by decide) rfl (Nat.le_of_ble_eq_true rfl) rfl dX11_readGauges_31 ?_
    refine z_aload_n 1 dX11_readGauges_34 rfl rfl ?_
    refine z_gP (ci := 11) (k := 7) (C := RX11) (T := TX11) (N := 14) rfl inlX11 (by decide) mw_2_12 (fun _ _ _ _ h9 => h9) hf (by decide) rfl dX11_readGauges_35  (fun v8 hf => ?_)
    refine z_iload_n 3 dX11_readGauges_38 rfl rfl ?_
    refine z_iload_n 0 dX11_readGauges_39 rfl rfl ?_
    refine z_if_ne 55 hf dX11_readGauges_40 (by decide) (fun hf => ?_) (fun hf => ?_)
    · refine z_ldcwf mw_27_10 dX11_readGauges_55 ?_
      refine z_lv [(0, .ref l0), (1, .int l1), (2, .int l2)] [1, 2, 3] rfl ?_
      exact zb_X11_readGauges_58 hE hk2 hf
    · refine z_aload_n 1 dX11_readGauges_43 rfl rfl ?_
      refine z_gP (ci := 11) (k := 1) (C := RX11) (T := TX11) (N := 14) rfl inlX11 (by decide) mw_1_19 (fun _ _ _ _ h9 => h9) hf (by decide) rfl dX11_readGauges_44  (fun v9 hf => ?_)
      refine z_iload_n 3 dX11_readGauges_47 rfl rfl ?_
      refine z_iload_n 2 dX11_readGauges_48 rfl rfl ?_
      obtain ⟨v10, ev10, hf⟩ := ob hf
      refine z_cVf (ci := 1) (T := TX1) (N := 8) (As := [.int l2, .int l1]) (rest := [.int l2, .ref v8]) (zm_X1_height ev10).2 (zm_X1_height ev10).1 (by decide) rfl (Or.inl rfl) mw_27_11 mw_24_10 mw_24_11 mw_1_18 mw_24_12 yk_X1_height (by decide) (by decide) rfl (Nat.le_of_ble_eq_true rfl) rfl dX11_readGauges_49 ?_
      refine z_goto 58 dX11_readGauges_52 (by decide) ?_
      refine z_lv [(0, .ref l0), (1, .int l1), (2, .int l2)] [1, 2, 3] rfl ?_
      exact zb_X11_readGauges_58 hE hk2 hf
set_option maxRecDepth 20000 in
theorem zb_X11_readGauges_2 {N : Nat} {sh : Sh} {r : Dt} {E : EV} (hE : TG E none (sh, r))  : ∀ (n : Nat) (l0 : Nat) (l1 : Int32) (l2 : Int32) (d : Dt), f_X11_readGauges_2 N sh n l0 l1 l2 d = some r → Z E yX11_readGauges cX11_readGauges 4 none 4 (sh, d) 2 [(0, .ref l0), (1, .int l1), (2, .int l2)] [] := by
  intro n
  induction n with
  | zero => intro l0 l1 l2 d hf; cases hf
  | succ n ih => intro l0 l1 l2 d hf; exact zg_X11_readGauges_2 hE ih hf
set_option maxRecDepth 20000 in
theorem zm_X11_readGauges {N : Nat} {sh : Sh} {d : Dt} {l0 : Nat} {l1 : Int32} {r : Dt} (hf : f_X11_readGauges N sh l0 l1 d = some r) : isO sh l0 11 ∧ ∀ (l : Launch) (G : GG), Mt l G yX11_readGauges cX11_readGauges 4 none 4 [.ref l0, .int l1] (sh, d) none (sh, r) := by
  have hf0 := hf
  unfold f_X11_readGauges at hf
  refine ite_d hf (fun hO hf => ?_) (fun _ hf => ?_)
  · refine ⟨hO, fun l G => mt_of (Or.inl (by decide)) (Nat.le_of_ble_eq_true rfl) Le.rf (fun E hE => ?_)⟩
    show Z E yX11_readGauges cX11_readGauges 4 none 4 (sh, d) 0 [(0, .ref l0), (1, .int l1)] []
    refine z_iconst 0 0 dX11_readGauges_0 (by decide) ?_
    refine z_istore_n [(2, .int (0 : Int32)), (0, .ref l0), (1, .int l1)] dX11_readGauges_1 rfl (by decide) rfl ?_
    refine z_lv [(0, .ref l0), (1, .int l1), (2, .int (0 : Int32))] [1, 2, 0] rfl ?_
    exact zb_X11_readGauges_2 hE N _ _ _ _ hf
  · cases hf
set_option maxRecDepth 20000 in
theorem zb_X1_cellOfShort_26 {N : Nat} {sh : Sh} {d : Dt} {r : Int64} {E : EV} (hE : TG E (some (.long r)) (sh, d))  {t0 : Int64} (hf : f_X1_cellOfShort_26 N sh t0 d = some r) : Z E yX1_cellOfShort cX1_cellOfShort 1 (some .long) 1 (sh, d) 26 [] [.long t0] := by
  unfold f_X1_cellOfShort_26 at hf
  cases hf
  exact z_lreturn hE rfl dX1_cellOfShort_26
set_option maxRecDepth 20000 in
theorem zm_X1_cellOfShort {N : Nat} {sh : Sh} {d : Dt} {l0 : Int32} {r : Int64} (hf : f_X1_cellOfShort N sh l0 d = some r) : ∀ (l : Launch) (G : GG), Mt l G yX1_cellOfShort cX1_cellOfShort 1 (some .long) 1 [.int l0] (sh, d) (some (.long r)) (sh, d) := by
  have hf0 := hf
  unfold f_X1_cellOfShort at hf
  refine fun l G => mt_of (Or.inl (by decide)) (Nat.le_of_ble_eq_true rfl) Le.rf (fun E hE => ?_)
  show Z E yX1_cellOfShort cX1_cellOfShort 1 (some .long) 1 (sh, d) 0 [(0, .int l0)] []
  refine z_iload_n 0 dX1_cellOfShort_0 rfl rfl ?_
  refine z_sipush (-32768) (-32768) dX1_cellOfShort_1 (by decide) ?_
  refine z_icmp_ne 11 hf dX1_cellOfShort_4 (by decide) (fun hf => ?_) (fun hf => ?_)
  · refine z_iload_n 0 dX1_cellOfShort_11 rfl rfl ?_
    refine z_sipush 32767 32767 dX1_cellOfShort_12 (by decide) ?_
    refine z_icmp_ne 24 hf dX1_cellOfShort_15 (by decide) (fun hf => ?_) (fun hf => ?_)
    · refine z_iload_n 0 dX1_cellOfShort_24 rfl rfl ?_
      refine z_i2l dX1_cellOfShort_25 ?_
      refine z_lv [] [] rfl ?_
      exact zb_X1_cellOfShort_26 hE hf
    · refine z_ldc2 mw_22_13 dX1_cellOfShort_18 ?_
      refine z_goto 26 dX1_cellOfShort_21 (by decide) ?_
      refine z_lv [] [] rfl ?_
      exact zb_X1_cellOfShort_26 hE hf
  · refine z_ldc2 mw_22_12 dX1_cellOfShort_7 ?_
    cases hf
    exact z_lreturn hE rfl dX1_cellOfShort_10
set_option maxRecDepth 20000 in
theorem le_X11_reading_48 {N : Nat} {r : Int32 × AS}  {t0 : Int32} {s : AS} (hf : f_X11_reading_48 N t0 s = some r) : Le s r.2 := by
  unfold f_X11_reading_48 at hf
  cases hf
  exact Le.rf
set_option maxRecDepth 20000 in
theorem zb_X11_reading_48 {N : Nat} {r : Int32 × AS} {E : EV} (hE : TG E (some (.int r.1)) r.2)   {t0 : Int32} {s : AS} (hf : f_X11_reading_48 N t0 s = some r) : Z E yX11_reading cX11_reading 4 (some .int) 7 s 48 [] [.int t0] := by
  unfold f_X11_reading_48 at hf
  cases hf
  exact z_ireturn hE rfl dX11_reading_48
set_option maxRecDepth 20000 in
theorem le_X11_reading_45 {N : Nat} {r : Int32 × AS}  {t0 : Nat} {t1 : Int32} {t2 : Int32} {t3 : Int64} {s : AS} (hf : f_X11_reading_45 N t0 t1 t2 t3 s = some r) : Le s r.2 := by
  unfold f_X11_reading_45 at hf
  obtain ⟨v8, ev8, hf⟩ := ob hf
  refine Le.of (t := (s.1, s.2)) rfl ((lm_X11_note ev8).tr ?_)
  exact Le.via (le_X11_reading_48 hf) rfl
set_option maxRecDepth 20000 in
theorem zb_X11_reading_45 {N : Nat} {r : Int32 × AS} {E : EV} (hE : TG E (some (.int r.1)) r.2)   {t0 : Nat} {t1 : Int32} {t2 : Int32} {t3 : Int64} {s : AS} (hf : f_X11_reading_45 N t0 t1 t2 t3 s = some r) : Z E yX11_reading cX11_reading 4 (some .int) 7 s 45 [] [.long t3, .int t2, .int t1, .ref t0] := by
  unfold f_X11_reading_45 at hf
  obtain ⟨v8, ev8, hf⟩ := ob hf
  refine z_cVi (ci := 11) (T := TX11) (N := 14) (As := [.int t1, .int t2, .long t3]) (rest := []) (zm_X11_note ev8).2 (zm_X11_note ev8).1 (by decide) rfl (Or.inr (tg_le hE (le_X11_reading_48 hf))) mw_22_14 mw_22_15 mw_22_16 mw_1_2 mw_22_17 yk_X11_note (by decide) (by decide) rfl (Nat.le_of_ble_eq_true rfl) rfl dX11_reading_45 ?_
  exact zb_X11_reading_48 hE hf
set_option maxRecDepth 20000 in
theorem lm_X11_reading {N : Nat} {s : AS} {l0 : Nat} {l1 : Int32} {l2 : Int32} {l3 : Int32} {r : Int32 × AS} (hf : f_X11_reading N l0 l1 l2 l3 s = some r) : Le s r.2 := by
  unfold f_X11_reading at hf
  refine ite_c hf (fun hf => ?_) (fun hf => ?_)
  · skip
    obtain ⟨v1, -, hf⟩ := ob hf
    obtain ⟨v2, -, hf⟩ := ob hf
    obtain ⟨v3, -, hf⟩ := ob hf
    refine ite_c hf (fun hf => ?_) (fun hf => ?_)
    · obtain ⟨v4, -, hf⟩ := ob hf
      obtain ⟨v5, -, hf⟩ := ob hf
      refine ite_c hf (fun hf => ?_) (fun hf => ?_)
      · exact Le.via (le_X11_reading_45 hf) rfl
      · obtain ⟨v6, -, hf⟩ := ob hf
        exact Le.via (le_X11_reading_45 hf) rfl
    · obtain ⟨v7, -, hf⟩ := ob hf
      cases hf
      exact Le.rf
  · cases hf
set_option maxRecDepth 20000 in
theorem zm_X11_reading {N : Nat} {s : AS} {l0 : Nat} {l1 : Int32} {l2 : Int32} {l3 : Int32} {r : Int32 × AS} (hf : f_X11_reading N l0 l1 l2 l3 s = some r) : isO s.1 l0 11 ∧ ∀ (l : Launch) (G : GG), Mt l G yX11_reading cX11_reading 4 (some .int) 7 [.ref l0, .int l1, .int l2, .int l3] s (some (.int r.1)) r.2 := by
  have hf0 := hf
  unfold f_X11_reading at hf
  refine ite_d hf (fun hO hf => ?_) (fun _ hf => ?_)
  · refine ⟨hO, fun l G => mt_of (Or.inl (by decide)) (Nat.le_of_ble_eq_true rfl) (lm_X11_reading hf0) (fun E hE => ?_)⟩
    show Z E yX11_reading cX11_reading 4 (some .int) 7 s 0 [(0, .ref l0), (1, .int l1), (2, .int l2), (3, .int l3)] []
    refine z_aload_n 0 dX11_reading_0 rfl rfl ?_
    refine z_gP (ci := 11) (k := 1) (C := RX11) (T := TX11) (N := 14) rfl inlX11 (by decide) mw_1_19 (fun _ _ _ _ h9 => h9) hf (by decide) rfl dX11_reading_1  (fun v1 hf => ?_)
    refine z_gP (ci := 1) (k := 2) (C := RX1) (T := TX1) (N := 8) rfl inlX1 (by decide) mw_19_21 (fun _ _ _ _ h9 => h9) hf (by decide) rfl dX11_reading_4  (fun v2 hf => ?_)
    refine z_iload_n 1 dX11_reading_7 rfl rfl ?_
    obtain ⟨v3, ev3, hf⟩ := ob hf
    refine z_cVi (ci := 8) (T := TX8) (N := 2) (As := [.int l1]) (rest := []) (zm_X8_has ev3).2 (zm_X8_has ev3).1 (by decide) rfl (Or.inl rfl) mw_13_22 mw_13_23 mw_14_0 mw_3_13 mw_14_1 yk_X8_has (by decide) (by decide) rfl (Nat.le_of_ble_eq_true rfl) rfl dX11_reading_8 ?_
    refine z_if_ne 21 hf dX11_reading_11 (by decide) (fun hf => ?_) (fun hf => ?_)
    · refine z_aload_n 0 dX11_reading_21 rfl rfl ?_
      refine z_iload_n 1 dX11_reading_22 rfl rfl ?_
      refine z_iload_n 2 dX11_reading_23 rfl rfl ?_
      refine z_aload_n 0 dX11_reading_24 rfl rfl ?_
      refine z_gP (ci := 11) (k := 1) (C := RX11) (T := TX11) (N := 14) rfl inlX11 (by decide) mw_1_19 (fun _ _ _ _ h9 => h9) hf (by decide) rfl dX11_reading_25  (fun v4 hf => ?_)
      refine z_iload_n 1 dX11_reading_28 rfl rfl ?_
      obtain ⟨v5, ev5, hf⟩ := ob hf
      refine z_cVi (ci := 1) (T := TX1) (N := 8) (As := [.int l1]) (rest := [.int l2, .int l1, .ref l0]) (zm_X1_isOfShorts ev5).2 (zm_X1_isOfShorts ev5).1 (by decide) rfl (Or.inl rfl) mw_22_5 mw_22_6 mw_22_7 mw_1_18 mw_22_8 yk_X1_isOfShorts (by decide) (by decide) rfl (Nat.le_of_ble_eq_true rfl) rfl dX11_reading_29 ?_
      refine z_if_eq 43 hf dX11_reading_32 (by decide) (fun hf => ?_) (fun hf => ?_)
      · refine z_iload_n 3 dX11_reading_43 rfl rfl ?_
        refine z_i2l dX11_reading_44 ?_
        refine z_lv [] [] rfl ?_
        exact zb_X11_reading_45 hE hf
      · refine z_iload_n 3 dX11_reading_35 rfl rfl ?_
        refine z_i2s dX11_reading_36 ?_
        obtain ⟨v6, ev6, hf⟩ := ob hf
        refine z_cTl (As := [.int l3.toInt16.toInt32]) (rest := [.int l2, .int l1, .ref l0]) (zm_X1_cellOfShort ev6) (Or.inl rfl) mw_22_9 mw_22_10 mw_1_18 mw_22_11 yk_X1_cellOfShort (by decide) (by decide) rfl (Nat.le_of_ble_eq_true rfl) rfl dX11_reading_37 ?_
        refine z_goto 45 dX11_reading_40 (by decide) ?_
        refine z_lv [] [] rfl ?_
        exact zb_X11_reading_45 hE hf
    · refine z_aload_n 0 dX11_reading_14 rfl rfl ?_
      refine z_bipush (-2) (-2) dX11_reading_15 (by decide) ?_
      obtain ⟨v7, ev7, hf⟩ := ob hf
      refine z_cVi (ci := 11) (T := TX11) (N := 14) (As := [.int (-2 : Int32)]) (rest := []) (zm_X11_refuse ev7).2 (zm_X11_refuse ev7).1 (by decide) rfl (Or.inl rfl) mw_7_22 mw_7_23 mw_8_0 mw_1_2 mw_8_1 yk_X11_refuse (by decide) (by decide) rfl (Nat.le_of_ble_eq_true rfl) rfl dX11_reading_17 ?_
      cases hf
      exact z_ireturn hE rfl dX11_reading_20
  · cases hf
set_option maxRecDepth 20000 in
theorem zb_X5_begin_137 {N : Nat} {sh : Sh} {r : Dt} {E : EV} (hE : TG E none (sh, r))   {d : Dt} (hf : f_X5_begin_137 N sh  d = some r) : Z E yX5_begin cX5_begin 3 none 3 (sh, d) 137 [] [] := by
  unfold f_X5_begin_137 at hf
  cases hf
  exact z_return hE rfl dX5_begin_137
set_option maxRecDepth 20000 in
theorem zg_X5_begin_59 {N : Nat} {sh : Sh} {r : Dt} {k59 : Nat → Int32 → Dt → Option Dt} {E : EV} (hE : TG E none (sh, r))  (hk59 : ∀ (l0 : Nat) (l2 : Int32) (d : Dt), k59 l0 l2 d = some r → Z E yX5_begin cX5_begin 3 none 3 (sh, d) 59 [(0, .ref l0), (2, .int l2)] []) {l0 : Nat} {l2 : Int32} {d : Dt} (hf : g_X5_begin_59 N sh k59 l0 l2 d = some r) : Z E yX5_begin cX5_begin 3 none 3 (sh, d) 59 [(0, .ref l0), (2, .int l2)] [] := by
  unfold g_X5_begin_59 at hf
  refine z_iload_n 1 dX5_begin_59 rfl rfl ?_
  refine z_aload_n 0 dX5_begin_60 rfl rfl ?_
  refine z_gI (ci := 5) (k := 8) (C := RX5) (T := TX5) (N := 13) rfl inlX5 (by decide) mw_5_23 (fun _ _ _ _ h9 => h9) hf (by decide) rfl dX5_begin_61  (fun v14 hf => ?_)
  refine z_icmp_ge 137 hf dX5_begin_64 (by decide) (fun hf => ?_) (fun hf => ?_)
  · refine z_lv [] [] rfl ?_
    exact zb_X5_begin_137 hE hf
  · refine z_aload_n 0 dX5_begin_67 rfl rfl ?_
    refine z_gP (ci := 5) (k := 6) (C := RX5) (T := TX5) (N := 13) rfl inlX5 (by decide) mw_5_21 (fun _ _ _ _ h9 => h9) hf (by decide) rfl dX5_begin_68  (fun v15 hf => ?_)
    refine z_iload_n 1 dX5_begin_71 rfl rfl ?_
    refine z_aload_n 0 dX5_begin_72 rfl rfl ?_
    refine z_gP (ci := 5) (k := 0) (C := RX5) (T := TX5) (N := 13) rfl inlX5 (by decide) mw_6_4 (fun _ _ _ _ h9 => h9) hf (by decide) rfl dX5_begin_73  (fun v16 hf => ?_)
    refine z_gP (ci := 1) (k := 1) (C := RX1) (T := TX1) (N := 8) rfl inlX1 (by decide) mw_43_17 (fun _ _ _ _ h9 => h9) hf (by decide) rfl dX5_begin_76  (fun v17 hf => ?_)
    refine z_iload_n 1 dX5_begin_79 rfl rfl ?_
    refine z_bipush 7 7 dX5_begin_80 (by decide) ?_
    obtain ⟨v18, ev18, hf⟩ := ob hf
    refine z_cVi (ci := 8) (T := TX8) (N := 2) (As := [.int l2, .int (7 : Int32)]) (rest := [.int l2, .ref v15]) (zm_X8_get ev18).2 (zm_X8_get ev18).1 (by decide) rfl (Or.inl rfl) mw_43_20 mw_10_11 mw_10_12 mw_3_13 mw_10_13 yk_X8_get (by decide) (by decide) rfl (Nat.le_of_ble_eq_true rfl) rfl dX5_begin_82 ?_
    refine z_sI hf dX5_begin_85  (fun d19 hf => ?_)
    refine z_aload_n 0 dX5_begin_86 rfl rfl ?_
    refine z_gP (ci := 5) (k := 7) (C := RX5) (T := TX5) (N := 13) rfl inlX5 (by decide) mw_5_22 (fun _ _ _ _ h9 => h9) hf (by decide) rfl dX5_begin_87  (fun v20 hf => ?_)
    refine z_iload_n 1 dX5_begin_90 rfl rfl ?_
    refine z_aload_n 0 dX5_begin_91 rfl rfl ?_
    refine z_gP (ci := 5) (k := 0) (C := RX5) (T := TX5) (N := 13) rfl inlX5 (by decide) mw_6_4 (fun _ _ _ _ h9 => h9) hf (by decide) rfl dX5_begin_92  (fun v21 hf => ?_)
    refine z_gP (ci := 1) (k := 1) (C := RX1) (T := TX1) (N := 8) rfl inlX1 (by decide) mw_43_17 (fun _ _ _ _ h9 => h9) hf (by decide) rfl dX5_begin_95  (fun v22 hf => ?_)
    refine z_iload_n 1 dX5_begin_98 rfl rfl ?_
    refine z_bipush 8 8 dX5_begin_99 (by decide) ?_
    obtain ⟨v23, ev23, hf⟩ := ob hf
    refine z_cVi (ci := 8) (T := TX8) (N := 2) (As := [.int l2, .int (8 : Int32)]) (rest := [.int l2, .ref v20]) (zm_X8_get ev23).2 (zm_X8_get ev23).1 (by decide) rfl (Or.inl rfl) mw_43_20 mw_10_11 mw_10_12 mw_3_13 mw_10_13 yk_X8_get (by decide) (by decide) rfl (Nat.le_of_ble_eq_true rfl) rfl dX5_begin_101 ?_
    refine z_sI hf dX5_begin_104  (fun d24 hf => ?_)
    refine z_aload_n 0 dX5_begin_105 rfl rfl ?_
    refine z_gP (ci := 5) (k := 10) (C := RX5) (T := TX5) (N := 13) rfl inlX5 (by decide) mw_6_1 (fun _ _ _ _ h9 => h9) hf (by decide) rfl dX5_begin_106  (fun v25 hf => ?_)
    refine z_iload_n 1 dX5_begin_109 rfl rfl ?_
    refine z_aload_n 0 dX5_begin_110 rfl rfl ?_
    refine z_gP (ci := 5) (k := 0) (C := RX5) (T := TX5) (N := 13) rfl inlX5 (by decide) mw_6_4 (fun _ _ _ _ h9 => h9) hf (by decide) rfl dX5_begin_111  (fun v26 hf => ?_)
    refine z_iload_n 1 dX5_begin_114 rfl rfl ?_
    obtain ⟨v27, ev27, hf⟩ := ob hf
    refine z_cVi (ci := 1) (T := TX1) (N := 8) (As := [.int l2]) (rest := [.int l2, .ref v25]) (zm_X1_sidesDue ev27).2 (zm_X1_sidesDue ev27).1 (by decide) rfl (Or.inl rfl) mw_43_21 mw_39_20 mw_39_21 mw_1_18 mw_39_22 yk_X1_sidesDue (by decide) (by decide) rfl (Nat.le_of_ble_eq_true rfl) rfl dX5_begin_115 ?_
    refine z_sI hf dX5_begin_118  (fun d28 hf => ?_)
    refine z_aload_n 0 dX5_begin_119 rfl rfl ?_
    refine z_gP (ci := 5) (k := 9) (C := RX5) (T := TX5) (N := 13) rfl inlX5 (by decide) mw_6_0 (fun _ _ _ _ h9 => h9) hf (by decide) rfl dX5_begin_120  (fun v29 hf => ?_)
    refine z_iload_n 1 dX5_begin_123 rfl rfl ?_
    refine z_aload_n 0 dX5_begin_124 rfl rfl ?_
    refine z_gP (ci := 5) (k := 10) (C := RX5) (T := TX5) (N := 13) rfl inlX5 (by decide) mw_6_1 (fun _ _ _ _ h9 => h9) hf (by decide) rfl dX5_begin_125  (fun v30 hf => ?_)
    refine z_iload_n 1 dX5_begin_128 rfl rfl ?_
    refine z_aI hf dX5_begin_129  (fun v31 hf => ?_)
    refine z_sI hf dX5_begin_130  (fun d32 hf => ?_)
    refine z_iinc [(2, .int (l2 + 1)), (0, .ref l0)] 1 (l2 + 1) dX5_begin_131 rfl rfl (by decide) rfl ?_
    refine z_goto 59 dX5_begin_134 (by decide) ?_
    refine z_lv [(0, .ref l0), (2, .int (l2 + 1))] [1, 0] rfl ?_
    exact hk59 _ _ _ hf
set_option maxRecDepth 20000 in
theorem zb_X5_begin_59 {N : Nat} {sh : Sh} {r : Dt} {E : EV} (hE : TG E none (sh, r))  : ∀ (n : Nat) (l0 : Nat) (l2 : Int32) (d : Dt), f_X5_begin_59 N sh n l0 l2 d = some r → Z E yX5_begin cX5_begin 3 none 3 (sh, d) 59 [(0, .ref l0), (2, .int l2)] [] := by
  intro n
  induction n with
  | zero => intro l0 l2 d hf; cases hf
  | succ n ih => intro l0 l2 d hf; exact zg_X5_begin_59 hE ih hf
set_option maxRecDepth 20000 in
theorem zm_X5_begin {N : Nat} {sh : Sh} {d : Dt} {l0 : Nat} {l1 : Int32} {r : Dt} (hf : f_X5_begin N sh l0 l1 d = some r) : isO sh l0 5 ∧ ∀ (l : Launch) (G : GG), Mt l G yX5_begin cX5_begin 3 none 3 [.ref l0, .int l1] (sh, d) none (sh, r) := by
  have hf0 := hf
  unfold f_X5_begin at hf
  refine ite_d hf (fun hO hf => ?_) (fun _ hf => ?_)
  · refine ⟨hO, fun l G => mt_of (Or.inl (by decide)) (Nat.le_of_ble_eq_true rfl) Le.rf (fun E hE => ?_)⟩
    show Z E yX5_begin cX5_begin 3 none 3 (sh, d) 0 [(0, .ref l0), (1, .int l1)] []
    refine z_aload_n 0 dX5_begin_0 rfl rfl ?_
    refine z_gP (ci := 5) (k := 3) (C := RX5) (T := TX5) (N := 13) rfl inlX5 (by decide) mw_5_18 (fun _ _ _ _ h9 => h9) hf (by decide) rfl dX5_begin_1  (fun v1 hf => ?_)
    refine z_iconst 0 0 dX5_begin_4 (by decide) ?_
    refine z_pI (ci := 8) (k := 1) (C := RX8) (T := TX8) (N := 2) rfl inlX8 (by decide) mw_43_16 (fun _ _ _ _ h9 => h9) tyX8 tyX8_ok nmX8 rfl hf (Or.inl (by decide)) rfl rfl rfl dX5_begin_5  (fun d2 hf => ?_)
    refine z_aload_n 0 dX5_begin_8 rfl rfl ?_
    refine z_iconst 0 0 dX5_begin_9 (by decide) ?_
    refine z_pI (ci := 5) (k := 12) (C := RX5) (T := TX5) (N := 13) rfl inlX5 (by decide) mw_6_3 (fun _ _ _ _ h9 => h9) tyX5 tyX5_ok nmX5 rfl hf (Or.inl (by decide)) rfl rfl rfl dX5_begin_10  (fun d3 hf => ?_)
    refine z_aload_n 0 dX5_begin_13 rfl rfl ?_
    refine z_gP (ci := 5) (k := 4) (C := RX5) (T := TX5) (N := 13) rfl inlX5 (by decide) mw_5_19 (fun _ _ _ _ h9 => h9) hf (by decide) rfl dX5_begin_14  (fun v4 hf => ?_)
    refine z_iconst 0 0 dX5_begin_17 (by decide) ?_
    obtain ⟨v5, ev5, hf⟩ := ob hf
    refine z_cTv (As := [.ref v4, .int (0 : Int32)]) (rest := []) (zm_J7_fill_53178 ev5) (Or.inl rfl) mw_43_19 mw_4_6 mw_4_7 mw_4_8 yk_J7_fill_53178 (by decide) (by decide) rfl (Nat.le_of_ble_eq_true rfl) rfl dX5_begin_18 ?_
    refine z_aload_n 0 dX5_begin_21 rfl rfl ?_
    refine z_gP (ci := 5) (k := 4) (C := RX5) (T := TX5) (N := 13) rfl inlX5 (by decide) mw_5_19 (fun _ _ _ _ h9 => h9) hf (by decide) rfl dX5_begin_22  (fun v6 hf => ?_)
    refine z_bipush 6 6 dX5_begin_25 (by decide) ?_
    refine z_iload_n 1 dX5_begin_27 rfl rfl ?_
    refine z_sI hf dX5_begin_28  (fun d7 hf => ?_)
    refine z_aload_n 0 dX5_begin_29 rfl rfl ?_
    refine z_gP (ci := 5) (k := 5) (C := RX5) (T := TX5) (N := 13) rfl inlX5 (by decide) mw_5_20 (fun _ _ _ _ h9 => h9) hf (by decide) rfl dX5_begin_30  (fun v8 hf => ?_)
    refine z_iconst (-1) (-1) dX5_begin_33 (by decide) ?_
    obtain ⟨v9, ev9, hf⟩ := ob hf
    refine z_cTv (As := [.ref v8, .int (-1 : Int32)]) (rest := []) (zm_J7_fill_53178 ev9) (Or.inl rfl) mw_43_19 mw_4_6 mw_4_7 mw_4_8 yk_J7_fill_53178 (by decide) (by decide) rfl (Nat.le_of_ble_eq_true rfl) rfl dX5_begin_34 ?_
    refine z_aload_n 0 dX5_begin_37 rfl rfl ?_
    refine z_aload_n 0 dX5_begin_38 rfl rfl ?_
    refine z_gP (ci := 5) (k := 0) (C := RX5) (T := TX5) (N := 13) rfl inlX5 (by decide) mw_6_4 (fun _ _ _ _ h9 => h9) hf (by decide) rfl dX5_begin_39  (fun v10 hf => ?_)
    refine z_gP (ci := 1) (k := 1) (C := RX1) (T := TX1) (N := 8) rfl inlX1 (by decide) mw_43_17 (fun _ _ _ _ h9 => h9) hf (by decide) rfl dX5_begin_42  (fun v11 hf => ?_)
    refine z_gI (ci := 8) (k := 1) (C := RX8) (T := TX8) (N := 2) rfl inlX8 (by decide) mw_43_16 (fun _ _ _ _ h9 => h9) hf (by decide) rfl dX5_begin_45  (fun v12 hf => ?_)
    refine z_sipush 150 150 dX5_begin_48 (by decide) ?_
    refine z_min mw_43_18 mw_9_20 mw_8_22 mw_9_21 (by decide) (Nat.le_of_ble_eq_true rfl) dX5_begin_51 ?_
    refine z_pI (ci := 5) (k := 8) (C := RX5) (T := TX5) (N := 13) rfl inlX5 (by decide) mw_5_23 (fun _ _ _ _ h9 => h9) tyX5 tyX5_ok nmX5 rfl hf (Or.inl (by decide)) rfl rfl rfl dX5_begin_54  (fun d13 hf => ?_)
    refine z_iconst 0 0 dX5_begin_57 (by decide) ?_
    refine z_istore_n [(2, .int (0 : Int32)), (0, .ref l0), (1, .int l1)] dX5_begin_58 rfl (by decide) rfl ?_
    refine z_lv [(0, .ref l0), (2, .int (0 : Int32))] [1, 0] rfl ?_
    exact zb_X5_begin_59 hE N _ _ _ hf
  · cases hf
set_option maxRecDepth 20000 in
theorem zb_X5_lookAtLeft_91 {N : Nat} {sh : Sh} {r : Int64 × Dt} {E : EV} (hE : TG E (some (.long r.1)) (sh, r.2))  {l1 : Int64} {d : Dt} (hf : f_X5_lookAtLeft_91 N sh l1 d = some r) : Z E yX5_lookAtLeft cX5_lookAtLeft 6 (some .long) 2 (sh, d) 91 [(1, .long l1)] [] := by
  unfold f_X5_lookAtLeft_91 at hf
  refine z_lload_n 0 dX5_lookAtLeft_91 rfl rfl ?_
  cases hf
  exact z_lreturn hE rfl dX5_lookAtLeft_92
set_option maxRecDepth 20000 in
theorem zb_X5_lookAtLeft_85 {N : Nat} {sh : Sh} {k12 : Nat → Int64 → Int32 → Dt → Option (Int64 × Dt)} {r : Int64 × Dt} {E : EV} (hE : TG E (some (.long r.1)) (sh, r.2)) (hk12 : ∀ (l0 : Nat) (l1 : Int64) (l3 : Int32) (d : Dt), k12 l0 l1 l3 d = some r → Z E yX5_lookAtLeft cX5_lookAtLeft 6 (some .long) 2 (sh, d) 12 [(0, .ref l0), (1, .long l1), (3, .int l3)] []) {l0 : Nat} {l1 : Int64} {l3 : Int32} {d : Dt} (hf : f_X5_lookAtLeft_85 N sh k12 l0 l1 l3 d = some r) : Z E yX5_lookAtLeft cX5_lookAtLeft 6 (some .long) 2 (sh, d) 85 [(0, .ref l0), (1, .long l1), (3, .int l3)] [] := by
  unfold f_X5_lookAtLeft_85 at hf
  refine z_iinc [(3, .int (l3 + 1)), (0, .ref l0), (1, .long l1)] 2 (l3 + 1) dX5_lookAtLeft_85 rfl rfl (by decide) rfl ?_
  refine z_goto 12 dX5_lookAtLeft_88 (by decide) ?_
  refine z_lv [(0, .ref l0), (1, .long l1), (3, .int (l3 + 1))] [1, 2, 0] rfl ?_
  exact hk12 _ _ _ _ hf
set_option maxRecDepth 20000 in
theorem zg_X5_lookAtLeft_12 {N : Nat} {sh : Sh} {r : Int64 × Dt} {k12 : Nat → Int64 → Int32 → Dt → Option (Int64 × Dt)} {E : EV} (hE : TG E (some (.long r.1)) (sh, r.2))  (hk12 : ∀ (l0 : Nat) (l1 : Int64) (l3 : Int32) (d : Dt), k12 l0 l1 l3 d = some r → Z E yX5_lookAtLeft cX5_lookAtLeft 6 (some .long) 2 (sh, d) 12 [(0, .ref l0), (1, .long l1), (3, .int l3)] []) {l0 : Nat} {l1 : Int64} {l3 : Int32} {d : Dt} (hf : g_X5_lookAtLeft_12 N sh k12 l0 l1 l3 d = some r) : Z E yX5_lookAtLeft cX5_lookAtLeft 6 (some .long) 2 (sh, d) 12 [(0, .ref l0), (1, .long l1), (3, .int l3)] [] := by
  unfold g_X5_lookAtLeft_12 at hf
  refine z_iload_n 2 dX5_lookAtLeft_12 rfl rfl ?_
  refine z_aload_n 0 dX5_lookAtLeft_13 rfl rfl ?_
  refine z_gI (ci := 5) (k := 8) (C := RX5) (T := TX5) (N := 13) rfl inlX5 (by decide) mw_5_23 (fun _ _ _ _ h9 => h9) hf (by decide) rfl dX5_lookAtLeft_14  (fun v3 hf => ?_)
  refine z_icmp_ge 91 hf dX5_lookAtLeft_17 (by decide) (fun hf => ?_) (fun hf => ?_)
  · refine z_lv [(1, .long l1)] [1] rfl ?_
    exact zb_X5_lookAtLeft_91 hE hf
  · refine z_aload_n 0 dX5_lookAtLeft_20 rfl rfl ?_
    refine z_gP (ci := 5) (k := 9) (C := RX5) (T := TX5) (N := 13) rfl inlX5 (by decide) mw_6_0 (fun _ _ _ _ h9 => h9) hf (by decide) rfl dX5_lookAtLeft_21  (fun v4 hf => ?_)
    refine z_iload_n 2 dX5_lookAtLeft_24 rfl rfl ?_
    refine z_aI hf dX5_lookAtLeft_25  (fun v5 hf => ?_)
    refine z_if_le 85 hf dX5_lookAtLeft_26 (by decide) (fun hf => ?_) (fun hf => ?_)
    · exact zb_X5_lookAtLeft_85 hE hk12 hf
    · refine z_aload_n 0 dX5_lookAtLeft_29 rfl rfl ?_
      refine z_gP (ci := 5) (k := 6) (C := RX5) (T := TX5) (N := 13) rfl inlX5 (by decide) mw_5_21 (fun _ _ _ _ h9 => h9) hf (by decide) rfl dX5_lookAtLeft_30  (fun v6 hf => ?_)
      refine z_iload_n 2 dX5_lookAtLeft_33 rfl rfl ?_
      refine z_aI hf dX5_lookAtLeft_34  (fun v7 hf => ?_)
      refine z_istore [(4, .int v7), (0, .ref l0), (1, .long l1), (3, .int l3)] dX5_lookAtLeft_35 (by decide) rfl ?_
      refine z_aload_n 1 dX5_lookAtLeft_37 rfl rfl ?_
      refine z_gP (ci := 5) (k := 7) (C := RX5) (T := TX5) (N := 13) rfl inlX5 (by decide) mw_5_22 (fun _ _ _ _ h9 => h9) hf (by decide) rfl dX5_lookAtLeft_38  (fun v8 hf => ?_)
      refine z_iload_n 3 dX5_lookAtLeft_41 rfl rfl ?_
      refine z_aI hf dX5_lookAtLeft_42  (fun v9 hf => ?_)
      refine z_istore [(5, .int v9), (4, .int v7), (0, .ref l0), (1, .long l1), (3, .int l3)] dX5_lookAtLeft_43 (by decide) rfl ?_
      refine z_aload_n 2 dX5_lookAtLeft_45 rfl rfl ?_
      refine z_gP (ci := 5) (k := 11) (C := RX5) (T := TX5) (N := 13) rfl inlX5 (by decide) mw_6_2 (fun _ _ _ _ h9 => h9) hf (by decide) rfl dX5_lookAtLeft_46  (fun v10 hf => ?_)
      refine z_iload 1 dX5_lookAtLeft_49 rfl ?_
      refine z_dup2_11 dX5_lookAtLeft_51 rfl rfl ?_
      refine z_aJ hf dX5_lookAtLeft_52  (fun v11 hf => ?_)
      refine z_lconst 1 1 dX5_lookAtLeft_53 (by decide) ?_
      refine z_iload 0 dX5_lookAtLeft_54 rfl ?_
      refine z_lshl dX5_lookAtLeft_56 ?_
      refine z_lor dX5_lookAtLeft_57 ?_
      refine z_sJ hf dX5_lookAtLeft_58  (fun d12 hf => ?_)
      refine z_aload_n 2 dX5_lookAtLeft_59 rfl rfl ?_
      refine z_gP (ci := 5) (k := 11) (C := RX5) (T := TX5) (N := 13) rfl inlX5 (by decide) mw_6_2 (fun _ _ _ _ h9 => h9) hf (by decide) rfl dX5_lookAtLeft_60  (fun v13 hf => ?_)
      refine z_iload 0 dX5_lookAtLeft_63 rfl ?_
      refine z_dup2_11 dX5_lookAtLeft_65 rfl rfl ?_
      refine z_aJ hf dX5_lookAtLeft_66  (fun v14 hf => ?_)
      refine z_lconst 1 1 dX5_lookAtLeft_67 (by decide) ?_
      refine z_iload 1 dX5_lookAtLeft_68 rfl ?_
      refine z_lshl dX5_lookAtLeft_70 ?_
      refine z_lor dX5_lookAtLeft_71 ?_
      refine z_sJ hf dX5_lookAtLeft_72  (fun d15 hf => ?_)
      refine z_lload_n 3 dX5_lookAtLeft_73 rfl rfl ?_
      refine z_lconst 1 1 dX5_lookAtLeft_74 (by decide) ?_
      refine z_iload 1 dX5_lookAtLeft_75 rfl ?_
      refine z_lshl dX5_lookAtLeft_77 ?_
      refine z_lconst 1 1 dX5_lookAtLeft_78 (by decide) ?_
      refine z_iload 0 dX5_lookAtLeft_79 rfl ?_
      refine z_lshl dX5_lookAtLeft_81 ?_
      refine z_lor dX5_lookAtLeft_82 ?_
      refine z_lor dX5_lookAtLeft_83 ?_
      refine z_lstore_n [(1, .long (l1 ||| (((1 : Int64) <<< (v7.toInt64 &&& 63)) ||| ((1 : Int64) <<< (v9.toInt64 &&& 63))))), (5, .int v9), (4, .int v7), (0, .ref l0), (3, .int l3)] dX5_lookAtLeft_84 rfl (by decide) rfl ?_
      refine z_lv [(0, .ref l0), (1, .long (l1 ||| (((1 : Int64) <<< (v7.toInt64 &&& 63)) ||| ((1 : Int64) <<< (v9.toInt64 &&& 63))))), (3, .int l3)] [3, 0, 4] rfl ?_
      exact zb_X5_lookAtLeft_85 hE hk12 hf
set_option maxRecDepth 20000 in
theorem zb_X5_lookAtLeft_12 {N : Nat} {sh : Sh} {r : Int64 × Dt} {E : EV} (hE : TG E (some (.long r.1)) (sh, r.2))  : ∀ (n : Nat) (l0 : Nat) (l1 : Int64) (l3 : Int32) (d : Dt), f_X5_lookAtLeft_12 N sh n l0 l1 l3 d = some r → Z E yX5_lookAtLeft cX5_lookAtLeft 6 (some .long) 2 (sh, d) 12 [(0, .ref l0), (1, .long l1), (3, .int l3)] [] := by
  intro n
  induction n with
  | zero => intro l0 l1 l3 d hf; cases hf
  | succ n ih => intro l0 l1 l3 d hf; exact zg_X5_lookAtLeft_12 hE ih hf
set_option maxRecDepth 20000 in
theorem zm_X5_lookAtLeft {N : Nat} {sh : Sh} {d : Dt} {l0 : Nat} {r : Int64 × Dt} (hf : f_X5_lookAtLeft N sh l0 d = some r) : isO sh l0 5 ∧ ∀ (l : Launch) (G : GG), Mt l G yX5_lookAtLeft cX5_lookAtLeft 6 (some .long) 2 [.ref l0] (sh, d) (some (.long r.1)) (sh, r.2) := by
  have hf0 := hf
  unfold f_X5_lookAtLeft at hf
  refine ite_d hf (fun hO hf => ?_) (fun _ hf => ?_)
  · refine ⟨hO, fun l G => mt_of (Or.inl (by decide)) (Nat.le_of_ble_eq_true rfl) Le.rf (fun E hE => ?_)⟩
    show Z E yX5_lookAtLeft cX5_lookAtLeft 6 (some .long) 2 (sh, d) 0 [(0, .ref l0)] []
    refine z_lconst 0 0 dX5_lookAtLeft_0 (by decide) ?_
    refine z_lstore_n [(1, .long (0 : Int64)), (0, .ref l0)] dX5_lookAtLeft_1 rfl (by decide) rfl ?_
    refine z_aload_n 1 dX5_lookAtLeft_2 rfl rfl ?_
    refine z_gP (ci := 5) (k := 11) (C := RX5) (T := TX5) (N := 13) rfl inlX5 (by decide) mw_6_2 (fun _ _ _ _ h9 => h9) hf (by decide) rfl dX5_lookAtLeft_3  (fun v1 hf => ?_)
    refine z_lconst 0 0 dX5_lookAtLeft_6 (by decide) ?_
    obtain ⟨v2, ev2, hf⟩ := ob hf
    refine z_cTv (As := [.ref v1, .long (0 : Int64)]) (rest := []) (zm_J7_fill_d0a16 ev2) (Or.inl rfl) mw_44_2 mw_16_10 mw_4_7 mw_16_11 yk_J7_fill_d0a16 (by decide) (by decide) rfl (Nat.le_of_ble_eq_true rfl) rfl dX5_lookAtLeft_7 ?_
    refine z_iconst 0 0 dX5_lookAtLeft_10 (by decide) ?_
    refine z_istore_n [(3, .int (0 : Int32)), (1, .long (0 : Int64)), (0, .ref l0)] dX5_lookAtLeft_11 rfl (by decide) rfl ?_
    refine z_lv [(0, .ref l0), (1, .long (0 : Int64)), (3, .int (0 : Int32))] [2, 1, 0] rfl ?_
    exact zb_X5_lookAtLeft_12 hE N _ _ _ _ hf
  · cases hf
