set_option maxHeartbeats 4000000 in
set_option maxRecDepth 100000 in
theorem k_linit (l : Launch) (G : GG) (sz : Nat) (lg : Nat)  : Met l yX2_init (.code yX2_init cX2_init 1 none :: TT) ({ frames := 1, cells := 1, slots := 5, locals := 100 } : Room) (c0_P G [.ref lg] sz ([(lg, .inr (2, [.null, .int 0, .int 0, .int 0]))])) (va_Qv (S := Nat) (fun (u : Nat) => True) (fun (u : Nat) (t : State) => c0_B G (va_A ([(lg, .inr (2, [.null, .int 0, .int 0, .int 0]))]) sz) ([(lg, .inr (2, [.ref u, .int 0, .int 0, .int 0])), (u, .inl (G.2 0, 5, .inl (fun _ => 0)))]) t) (va_A ([(lg, .inr (2, [.null, .int 0, .int 0, .int 0]))]) sz)) 1 5 (va_A ([(lg, .inr (2, [.null, .int 0, .int 0, .int 0]))]) sz) := by
  refine Met.ofW (cc := cX2_init) (maxL := 1) (ret := none) (by decide) rfl ?_
  intro p e s m args below meth c s₁ B hml hv
  obtain ⟨rfl, hsz, hP, hK, hD0⟩ := hv
  have hx := B.exec
  have hb := B.bytes
  have hr := B.returns
  have hts := atoms_spec (ws := .code yX2_init cX2_init 1 none :: TT) B.pre
  have ht := fun (w : Cond) (h : w ∈ TT) => hts w (List.mem_cons_of_mem _ h)
  have hown : s.vm.findClass RX2 = some m.cls := findClass_of_methodNamed B.named
  have hlocks := B.notSynchronized
  have hin : meth.name = "<init>" := (name_of_methodNamed B.named B.method).1
  subst hsz
  have hD := hD0.self (sz := s.heap.size)
  generalize hAe : va_A ([(lg, .inr (2, [.null, .int 0, .int 0, .int 0]))]) s.heap.size = A at hD ⊢
  have hA : ∀ q : Nat, s.heap.size ≤ q → A q := fun q h => by rw [← hAe]; exact Or.inr h
  have hS : va_S A s.heap s.heap [] := va_S.rf
  have hP : va_P G.1 vwCl ([(lg, .inr (2, [.null, .int 0, .int 0, .int 0]))]) s.heap := hP
  have hl := lv_entry ([.ref lg]) (n := 1) (Nat.le_of_ble_eq_true rfl)
  rw [lg_entry_eq]
  generalize (lg_sl ([.ref lg]) ++ List.replicate (1 - (lg_sl ([.ref lg])).length) Slot.unset).toArray = ls at hl ⊢
  have hl : lv_has ls 1 [(0, .ref lg)] := hl
  refine lv_aload_n hx hb dX2_init_0 rfl (lv_at hl 0 rfl) ?_
  refine W.objInit hx hb hown (ht (Cond.methodLink RX2 3 objectInit) mw_3_1) (ht (Cond.instanceMethod objectInit) mw_1_10) (ht (Cond.code objectInit ⟨#[0xb1]⟩ 1 none) mw_1_11) rfl (by rw [hml]; exact hl.1) rfl dX2_init_1 (Nat.le_of_ble_eq_true rfl) (Nat.le_of_ble_eq_true rfl) ?_
  refine W.eq (g2 := F0 m 4 ls []) rfl ?_
  refine lv_aload_n hx hb dX2_init_4 rfl (lv_at hl 0 rfl) ?_
  refine lv_iconst (v := 5) hx hb dX2_init_5 (by decide) ?_
  refine ns_new 0 (atype := .int) (ty := .int) (a0 := (5, .inl (fun _ => 0))) hx hb (ht (Cond.arrayClass .int) mw_2_13) rfl rfl (fun h => h) hK hP hD hS hA (fun _ => rfl) (by decide) (N' := 5) (by decide) (by decide) (Nat.le_of_ble_eq_true rfl) (Nat.le_of_ble_eq_true rfl) dX2_init_6 (fun q_1 H hP hD hS => ?_)
  have hP : va_P G.1 vwCl ([(lg, .inr (2, [.null, .int 0, .int 0, .int 0])), (q_1, .inl (G.2 0, 5, .inl (fun _ => 0)))]) H := hP
  have hD : va_D A ([(lg, .inr (2, [.null, .int 0, .int 0, .int 0])), (q_1, .inl (G.2 0, 5, .inl (fun _ => 0)))]) := hD
  refine W.widen (k := 1) (n := 5) (by omega) (by omega) ?_
  refine va_putF (D := G.1) (ci := 2) (v := .ref q_1) (ty := tyX2 0) (C := RX2) (T := TX2) (N := 4) hx hb ht inlX2 tyX2 tyX2_ok nmX2 hown hK.1 hP hD hS 0 rfl rfl 0 (by decide) (ht (Cond.fieldLink RX2 9 "PloughDepot$Log" "findings" "[I") mw_3_2) (fun _ h9 => h9) rfl hin rfl (tyX2_ok 0 (by decide)) rfl rfl (Nat.le_of_ble_eq_true rfl) dX2_init_8 (fun H locs hP hD hS => ?_)
  have hP : va_P G.1 vwCl ([(lg, .inr (2, [.ref q_1, .int 0, .int 0, .int 0])), (q_1, .inl (G.2 0, 5, .inl (fun _ => 0)))]) H := hP
  have hD : va_D A ([(lg, .inr (2, [.ref q_1, .int 0, .int 0, .int 0])), (q_1, .inl (G.2 0, 5, .inl (fun _ => 0)))]) := hD
  refine lv_aload_n hx hb dX2_init_11 rfl (lv_at hl 0 rfl) ?_
  refine lv_iconst (v := 0) hx hb dX2_init_12 (by decide) ?_
  refine va_put (D := G.1) (ci := 2) (v := .int 0) (ty := tyX2 1) (C := RX2) (T := TX2) (N := 4) hx hb ht inlX2 tyX2 tyX2_ok nmX2 hown hK.1 hP hD hS 0 rfl rfl 1 (by decide) (ht (Cond.fieldLink RX2 15 "PloughDepot$Log" "status" "I") mw_3_3) (fun _ h9 => h9) rfl (tyX2_ok 1 (by decide)) rfl rfl (Nat.le_of_ble_eq_true rfl) dX2_init_13 (fun H locs hP hD hS => ?_)
  have hP : va_P G.1 vwCl ([(lg, .inr (2, [.ref q_1, .int 0, .int 0, .int 0])), (q_1, .inl (G.2 0, 5, .inl (fun _ => 0)))]) H := hP
  have hD : va_D A ([(lg, .inr (2, [.ref q_1, .int 0, .int 0, .int 0])), (q_1, .inl (G.2 0, 5, .inl (fun _ => 0)))]) := hD
  refine lv_aload_n hx hb dX2_init_16 rfl (lv_at hl 0 rfl) ?_
  refine lv_iconst (v := 0) hx hb dX2_init_17 (by decide) ?_
  refine va_put (D := G.1) (ci := 2) (v := .int 0) (ty := tyX2 2) (C := RX2) (T := TX2) (N := 4) hx hb ht inlX2 tyX2 tyX2_ok nmX2 hown hK.1 hP hD hS 0 rfl rfl 2 (by decide) (ht (Cond.fieldLink RX2 19 "PloughDepot$Log" "trace" "I") mw_3_4) (fun _ h9 => h9) rfl (tyX2_ok 2 (by decide)) rfl rfl (Nat.le_of_ble_eq_true rfl) dX2_init_18 (fun H locs hP hD hS => ?_)
  have hP : va_P G.1 vwCl ([(lg, .inr (2, [.ref q_1, .int 0, .int 0, .int 0])), (q_1, .inl (G.2 0, 5, .inl (fun _ => 0)))]) H := hP
  have hD : va_D A ([(lg, .inr (2, [.ref q_1, .int 0, .int 0, .int 0])), (q_1, .inl (G.2 0, 5, .inl (fun _ => 0)))]) := hD
  refine lv_aload_n hx hb dX2_init_21 rfl (lv_at hl 0 rfl) ?_
  refine lv_iconst (v := 0) hx hb dX2_init_22 (by decide) ?_
  refine va_put (D := G.1) (ci := 2) (v := .int 0) (ty := tyX2 3) (C := RX2) (T := TX2) (N := 4) hx hb ht inlX2 tyX2 tyX2_ok nmX2 hown hK.1 hP hD hS 0 rfl rfl 3 (by decide) (ht (Cond.fieldLink RX2 22 "PloughDepot$Log" "looks" "I") mw_3_5) (fun _ h9 => h9) rfl (tyX2_ok 3 (by decide)) rfl rfl (Nat.le_of_ble_eq_true rfl) dX2_init_23 (fun H locs hP hD hS => ?_)
  have hP : va_P G.1 vwCl ([(lg, .inr (2, [.ref q_1, .int 0, .int 0, .int 0])), (q_1, .inl (G.2 0, 5, .inl (fun _ => 0)))]) H := hP
  have hD : va_D A ([(lg, .inr (2, [.ref q_1, .int 0, .int 0, .int 0])), (q_1, .inl (G.2 0, 5, .inl (fun _ => 0)))]) := hD
  have hP9 := hP.sub (ws' := [(lg, .inr (2, [.ref q_1, .int 0, .int 0, .int 0])), (q_1, .inl (G.2 0, 5, .inl (fun _ => 0)))]) [0, 1] rfl
  have hD9 := hD.sub (ws' := [(lg, .inr (2, [.ref q_1, .int 0, .int 0, .int 0])), (q_1, .inl (G.2 0, 5, .inl (fun _ => 0)))]) [0, 1] (by decide) rfl
  exact W.vret hx hb hr (fun t ht hW => ⟨⟨q_1, rfl, trivial, ⟨by rw [ht]; exact hP9, hD9⟩⟩, hS.F ht⟩) hS.2.2 dX2_init_26

set_option maxHeartbeats 4000000 in
set_option maxRecDepth 100000 in
theorem k_winit (l : Launch) (G : GG) (sz : Nat) (wy : Nat) (nw : Nat) (L : List Nat) (fp : Nat → va_E) (hRo : Ro G L fp) : Met l yX10_init (.code yX10_init cX10_init 2 none :: TT) ({ frames := 1, cells := 123, slots := 7380, locals := 100 } : Room) (c0_P G [.ref wy, .ref nw] sz ([(wy, .inr (10, [.null, .null, .null, .null, .long 0, .int 0]))] ++ va_pl L fp)) (va_Qv (S := Nat × (Nat → Option Nat) × Nat × Nat × (List Nat) × (Nat → va_E)) (fun (u : Nat × (Nat → Option Nat) × Nat × Nat × (List Nat) × (Nat → va_E)) => Ro G u.2.2.2.2.1 u.2.2.2.2.2 ∧ (∀ a9, a9 ∈ L → a9 ∈ u.2.2.2.2.1) ∧ Gr u.2.2.2.2.1 u.2.1 60) (fun (u : Nat × (Nat → Option Nat) × Nat × Nat × (List Nat) × (Nat → va_E)) (t : State) => c0_B G (va_A ([(wy, .inr (10, [.null, .null, .null, .null, .long 0, .int 0]))] ++ va_pl L fp) sz) ([(wy, .inr (10, [.ref nw, .ref u.1, .ref u.2.2.1, .ref u.2.2.2.1, .long 0, .int 0])), (u.1, .inl (G.2 5, 60, .inr (.inr (.inr (.inr u.2.1))))), (u.2.2.1, .inl (G.2 1, 60, .inr (.inl (fun _ => 0))))] ++ va_pl u.2.2.2.2.1 u.2.2.2.2.2) t) (va_A ([(wy, .inr (10, [.null, .null, .null, .null, .long 0, .int 0]))] ++ va_pl L fp) sz)) 123 7380 (va_A ([(wy, .inr (10, [.null, .null, .null, .null, .long 0, .int 0]))] ++ va_pl L fp) sz) := by
  refine Met.ofW (cc := cX10_init) (maxL := 2) (ret := none) (by decide) rfl ?_
  intro p e s m args below meth c s₁ B hml hv
  obtain ⟨rfl, hsz, hP, hK, hD0⟩ := hv
  have hx := B.exec
  have hb := B.bytes
  have hr := B.returns
  have hts := atoms_spec (ws := .code yX10_init cX10_init 2 none :: TT) B.pre
  have ht := fun (w : Cond) (h : w ∈ TT) => hts w (List.mem_cons_of_mem _ h)
  have hown : s.vm.findClass RX10 = some m.cls := findClass_of_methodNamed B.named
  have hlocks := B.notSynchronized
  have hin : meth.name = "<init>" := (name_of_methodNamed B.named B.method).1
  subst hsz
  have hD := hD0.self (sz := s.heap.size)
  generalize hAe : va_A ([(wy, .inr (10, [.null, .null, .null, .null, .long 0, .int 0]))] ++ va_pl L fp) s.heap.size = A at hD ⊢
  have hA : ∀ q : Nat, s.heap.size ≤ q → A q := fun q h => by rw [← hAe]; exact Or.inr h
  have hS : va_S A s.heap s.heap [] := va_S.rf
  have hP : va_P G.1 vwCl ([(wy, .inr (10, [.null, .null, .null, .null, .long 0, .int 0]))] ++ va_pl L fp) s.heap := hP
  have hl := lv_entry ([.ref wy, .ref nw]) (n := 2) (Nat.le_of_ble_eq_true rfl)
  rw [lg_entry_eq]
  generalize (lg_sl ([.ref wy, .ref nw]) ++ List.replicate (2 - (lg_sl ([.ref wy, .ref nw])).length) Slot.unset).toArray = ls at hl ⊢
  have hl : lv_has ls 2 [(0, .ref wy), (1, .ref nw)] := hl
  have hsub : ∀ a9, a9 ∈ L → a9 ∈ L := fun _ h => h
  refine lv_aload_n hx hb dX10_init_0 rfl (lv_at hl 0 rfl) ?_
  refine W.objInit hx hb hown (ht (Cond.methodLink RX10 3 objectInit) mw_4_12) (ht (Cond.instanceMethod objectInit) mw_1_10) (ht (Cond.code objectInit ⟨#[0xb1]⟩ 1 none) mw_1_11) rfl (by rw [hml]; exact hl.1) rfl dX10_init_1 (Nat.le_of_ble_eq_true rfl) (Nat.le_of_ble_eq_true rfl) ?_
  refine W.eq (g2 := F0 m 4 ls []) rfl ?_
  refine lv_aload_n hx hb dX10_init_4 rfl (lv_at hl 0 rfl) ?_
  refine lv_bipush (v := 60) hx hb dX10_init_5 (by decide) ?_
  refine lv_bipush (v := 60) hx hb dX10_init_7 (by decide) ?_
  refine ns_mna (X := [(wy, .inr (10, [.null, .null, .null, .null, .long 0, .int 0]))]) hx hb hown (ht (Cond.classLink RX10 9 "[[I") mw_4_13) (ht (Cond.arrayClass .int) mw_2_13) hK hRo hP hD hS hA (by decide) (by decide) (N' := 60) (by decide) (K' := 60) (by decide) (by decide) (by decide) (by decide) (Nat.le_of_ble_eq_true rfl) (Nat.le_of_ble_eq_true rfl) dX10_init_9 (fun q_1 g_2 L_3 fp_4 H hRo hsb_5 hg_6 hP hD hS => ?_)
  have hsub := fun (a9 : Nat) h => hsb_5 a9 (hsub a9 h)
  have hP : va_P G.1 vwCl ([(wy, .inr (10, [.null, .null, .null, .null, .long 0, .int 0])), (q_1, .inl (G.2 5, 60, .inr (.inr (.inr (.inr g_2)))))] ++ va_pl L_3 fp_4) H := hP
  have hD : va_D A ([(wy, .inr (10, [.null, .null, .null, .null, .long 0, .int 0])), (q_1, .inl (G.2 5, 60, .inr (.inr (.inr (.inr g_2)))))] ++ va_pl L_3 fp_4) := hD
  refine W.widen (k := 61) (n := 3660) (by omega) (by omega) ?_
  refine va_putF (D := G.1) (ci := 10) (v := .ref q_1) (ty := tyX10 1) (C := RX10) (T := TX10) (N := 6) hx hb ht inlX10 tyX10 tyX10_ok nmX10 hown hK.1 hP hD hS 0 rfl rfl 1 (by decide) (ht (Cond.fieldLink RX10 11 "PloughDepot$Ways" "hop" "[[I") mw_4_14) (fun _ h9 => h9) rfl hin rfl (tyX10_ok 1 (by decide)) rfl rfl (Nat.le_of_ble_eq_true rfl) dX10_init_13 (fun H locs hP hD hS => ?_)
  have hP : va_P G.1 vwCl ([(wy, .inr (10, [.null, .ref q_1, .null, .null, .long 0, .int 0])), (q_1, .inl (G.2 5, 60, .inr (.inr (.inr (.inr g_2)))))] ++ va_pl L_3 fp_4) H := hP
  have hD : va_D A ([(wy, .inr (10, [.null, .ref q_1, .null, .null, .long 0, .int 0])), (q_1, .inl (G.2 5, 60, .inr (.inr (.inr (.inr g_2)))))] ++ va_pl L_3 fp_4) := hD
  refine lv_aload_n hx hb dX10_init_16 rfl (lv_at hl 0 rfl) ?_
  refine lv_bipush (v := 60) hx hb dX10_init_17 (by decide) ?_
  refine ns_new 1 (atype := .long) (ty := .long) (a0 := (60, .inr (.inl (fun _ => 0)))) hx hb (ht (Cond.arrayClass .long) mw_3_20) rfl rfl (fun h => h) hK hP hD hS hA (fun _ => rfl) (by decide) (N' := 60) (by decide) (by decide) (Nat.le_of_ble_eq_true rfl) (Nat.le_of_ble_eq_true rfl) dX10_init_19 (fun q_7 H hP hD hS => ?_)
  have hP := va_P.swap hP
  have hD := va_D.swap hD
  have hP : va_P G.1 vwCl ([(wy, .inr (10, [.null, .ref q_1, .null, .null, .long 0, .int 0])), (q_1, .inl (G.2 5, 60, .inr (.inr (.inr (.inr g_2))))), (q_7, .inl (G.2 1, 60, .inr (.inl (fun _ => 0))))] ++ va_pl L_3 fp_4) H := hP
  have hD : va_D A ([(wy, .inr (10, [.null, .ref q_1, .null, .null, .long 0, .int 0])), (q_1, .inl (G.2 5, 60, .inr (.inr (.inr (.inr g_2))))), (q_7, .inl (G.2 1, 60, .inr (.inl (fun _ => 0))))] ++ va_pl L_3 fp_4) := hD
  refine W.widen (k := 62) (n := 3720) (by omega) (by omega) ?_
  refine va_putF (D := G.1) (ci := 10) (v := .ref q_7) (ty := tyX10 2) (C := RX10) (T := TX10) (N := 6) hx hb ht inlX10 tyX10 tyX10_ok nmX10 hown hK.1 hP hD hS 0 rfl rfl 2 (by decide) (ht (Cond.fieldLink RX10 16 "PloughDepot$Ways" "into" "[J") mw_4_15) (fun _ h9 => h9) rfl hin rfl (tyX10_ok 2 (by decide)) rfl rfl (Nat.le_of_ble_eq_true rfl) dX10_init_21 (fun H locs hP hD hS => ?_)
  have hP : va_P G.1 vwCl ([(wy, .inr (10, [.null, .ref q_1, .ref q_7, .null, .long 0, .int 0])), (q_1, .inl (G.2 5, 60, .inr (.inr (.inr (.inr g_2))))), (q_7, .inl (G.2 1, 60, .inr (.inl (fun _ => 0))))] ++ va_pl L_3 fp_4) H := hP
  have hD : va_D A ([(wy, .inr (10, [.null, .ref q_1, .ref q_7, .null, .long 0, .int 0])), (q_1, .inl (G.2 5, 60, .inr (.inr (.inr (.inr g_2))))), (q_7, .inl (G.2 1, 60, .inr (.inl (fun _ => 0))))] ++ va_pl L_3 fp_4) := hD
  refine lv_aload_n hx hb dX10_init_24 rfl (lv_at hl 0 rfl) ?_
  refine lv_bipush (v := 60) hx hb dX10_init_25 (by decide) ?_
  refine lv_bipush (v := 60) hx hb dX10_init_27 (by decide) ?_
  refine ns_mna (X := [(wy, .inr (10, [.null, .ref q_1, .ref q_7, .null, .long 0, .int 0])), (q_1, .inl (G.2 5, 60, .inr (.inr (.inr (.inr g_2))))), (q_7, .inl (G.2 1, 60, .inr (.inl (fun _ => 0))))]) hx hb hown (ht (Cond.classLink RX10 9 "[[I") mw_4_13) (ht (Cond.arrayClass .int) mw_2_13) hK hRo hP hD hS hA (by decide) (by decide) (N' := 60) (by decide) (K' := 60) (by decide) (by decide) (by decide) (by decide) (Nat.le_of_ble_eq_true rfl) (Nat.le_of_ble_eq_true rfl) dX10_init_29 (fun q_8 g_9 L_10 fp_11 H hRo hsb_12 hg_13 hP hD hS => ?_)
  have hg_6 := Gr.mono hg_6 hsb_12
  have hsub := fun (a9 : Nat) h => hsb_12 a9 (hsub a9 h)
  have hP : va_P G.1 vwCl ([(wy, .inr (10, [.null, .ref q_1, .ref q_7, .null, .long 0, .int 0])), (q_1, .inl (G.2 5, 60, .inr (.inr (.inr (.inr g_2))))), (q_7, .inl (G.2 1, 60, .inr (.inl (fun _ => 0)))), (q_8, .inl (G.2 5, 60, .inr (.inr (.inr (.inr g_9)))))] ++ va_pl L_10 fp_11) H := hP
  have hD : va_D A ([(wy, .inr (10, [.null, .ref q_1, .ref q_7, .null, .long 0, .int 0])), (q_1, .inl (G.2 5, 60, .inr (.inr (.inr (.inr g_2))))), (q_7, .inl (G.2 1, 60, .inr (.inl (fun _ => 0)))), (q_8, .inl (G.2 5, 60, .inr (.inr (.inr (.inr g_9)))))] ++ va_pl L_10 fp_11) := hD
  refine W.widen (k := 123) (n := 7380) (by omega) (by omega) ?_
  refine va_putF (D := G.1) (ci := 10) (v := .ref q_8) (ty := tyX10 3) (C := RX10) (T := TX10) (N := 6) hx hb ht inlX10 tyX10 tyX10_ok nmX10 hown hK.1 hP hD hS 0 rfl rfl 3 (by decide) (ht (Cond.fieldLink RX10 20 "PloughDepot$Ways" "gap" "[[I") mw_4_16) (fun _ h9 => h9) rfl hin rfl (tyX10_ok 3 (by decide)) rfl rfl (Nat.le_of_ble_eq_true rfl) dX10_init_33 (fun H locs hP hD hS => ?_)
  have hP : va_P G.1 vwCl ([(wy, .inr (10, [.null, .ref q_1, .ref q_7, .ref q_8, .long 0, .int 0])), (q_1, .inl (G.2 5, 60, .inr (.inr (.inr (.inr g_2))))), (q_7, .inl (G.2 1, 60, .inr (.inl (fun _ => 0)))), (q_8, .inl (G.2 5, 60, .inr (.inr (.inr (.inr g_9)))))] ++ va_pl L_10 fp_11) H := hP
  have hD : va_D A ([(wy, .inr (10, [.null, .ref q_1, .ref q_7, .ref q_8, .long 0, .int 0])), (q_1, .inl (G.2 5, 60, .inr (.inr (.inr (.inr g_2))))), (q_7, .inl (G.2 1, 60, .inr (.inl (fun _ => 0)))), (q_8, .inl (G.2 5, 60, .inr (.inr (.inr (.inr g_9)))))] ++ va_pl L_10 fp_11) := hD
  refine lv_aload_n hx hb dX10_init_36 rfl (lv_at hl 0 rfl) ?_
  refine lv_lconst (v := 0) hx hb dX10_init_37 (by decide) ?_
  refine va_put (D := G.1) (ci := 10) (v := .long 0) (ty := tyX10 4) (C := RX10) (T := TX10) (N := 6) hx hb ht inlX10 tyX10 tyX10_ok nmX10 hown hK.1 hP hD hS 0 rfl rfl 4 (by decide) (ht (Cond.fieldLink RX10 23 "PloughDepot$Ways" "measured" "J") mw_4_17) (fun _ h9 => h9) rfl (tyX10_ok 4 (by decide)) rfl rfl (Nat.le_of_ble_eq_true rfl) dX10_init_38 (fun H locs hP hD hS => ?_)
  have hP : va_P G.1 vwCl ([(wy, .inr (10, [.null, .ref q_1, .ref q_7, .ref q_8, .long 0, .int 0])), (q_1, .inl (G.2 5, 60, .inr (.inr (.inr (.inr g_2))))), (q_7, .inl (G.2 1, 60, .inr (.inl (fun _ => 0)))), (q_8, .inl (G.2 5, 60, .inr (.inr (.inr (.inr g_9)))))] ++ va_pl L_10 fp_11) H := hP
  have hD : va_D A ([(wy, .inr (10, [.null, .ref q_1, .ref q_7, .ref q_8, .long 0, .int 0])), (q_1, .inl (G.2 5, 60, .inr (.inr (.inr (.inr g_2))))), (q_7, .inl (G.2 1, 60, .inr (.inl (fun _ => 0)))), (q_8, .inl (G.2 5, 60, .inr (.inr (.inr (.inr g_9)))))] ++ va_pl L_10 fp_11) := hD
  refine lv_aload_n hx hb dX10_init_41 rfl (lv_at hl 0 rfl) ?_
  refine lv_iconst (v := 0) hx hb dX10_init_42 (by decide) ?_
  refine va_put (D := G.1) (ci := 10) (v := .int 0) (ty := tyX10 5) (C := RX10) (T := TX10) (N := 6) hx hb ht inlX10 tyX10 tyX10_ok nmX10 hown hK.1 hP hD hS 0 rfl rfl 5 (by decide) (ht (Cond.fieldLink RX10 27 "PloughDepot$Ways" "ready" "Z") mw_4_18) (fun _ h9 => h9) rfl (tyX10_ok 5 (by decide)) rfl rfl (Nat.le_of_ble_eq_true rfl) dX10_init_43 (fun H locs hP hD hS => ?_)
  have hP : va_P G.1 vwCl ([(wy, .inr (10, [.null, .ref q_1, .ref q_7, .ref q_8, .long 0, .int 0])), (q_1, .inl (G.2 5, 60, .inr (.inr (.inr (.inr g_2))))), (q_7, .inl (G.2 1, 60, .inr (.inl (fun _ => 0)))), (q_8, .inl (G.2 5, 60, .inr (.inr (.inr (.inr g_9)))))] ++ va_pl L_10 fp_11) H := hP
  have hD : va_D A ([(wy, .inr (10, [.null, .ref q_1, .ref q_7, .ref q_8, .long 0, .int 0])), (q_1, .inl (G.2 5, 60, .inr (.inr (.inr (.inr g_2))))), (q_7, .inl (G.2 1, 60, .inr (.inl (fun _ => 0)))), (q_8, .inl (G.2 5, 60, .inr (.inr (.inr (.inr g_9)))))] ++ va_pl L_10 fp_11) := hD
  refine lv_aload_n hx hb dX10_init_46 rfl (lv_at hl 0 rfl) ?_
  refine lv_aload_n hx hb dX10_init_47 rfl (lv_at hl 1 rfl) ?_
  refine va_putF (D := G.1) (ci := 10) (v := .ref nw) (ty := tyX10 0) (C := RX10) (T := TX10) (N := 6) hx hb ht inlX10 tyX10 tyX10_ok nmX10 hown hK.1 hP hD hS 0 rfl rfl 0 (by decide) (ht (Cond.fieldLink RX10 31 "PloughDepot$Ways" "books" "LPloughDepot$Books;") mw_4_19) (fun _ h9 => h9) rfl hin rfl (tyX10_ok 0 (by decide)) rfl rfl (Nat.le_of_ble_eq_true rfl) dX10_init_48 (fun H locs hP hD hS => ?_)
  have hP : va_P G.1 vwCl ([(wy, .inr (10, [.ref nw, .ref q_1, .ref q_7, .ref q_8, .long 0, .int 0])), (q_1, .inl (G.2 5, 60, .inr (.inr (.inr (.inr g_2))))), (q_7, .inl (G.2 1, 60, .inr (.inl (fun _ => 0)))), (q_8, .inl (G.2 5, 60, .inr (.inr (.inr (.inr g_9)))))] ++ va_pl L_10 fp_11) H := hP
  have hD : va_D A ([(wy, .inr (10, [.ref nw, .ref q_1, .ref q_7, .ref q_8, .long 0, .int 0])), (q_1, .inl (G.2 5, 60, .inr (.inr (.inr (.inr g_2))))), (q_7, .inl (G.2 1, 60, .inr (.inl (fun _ => 0)))), (q_8, .inl (G.2 5, 60, .inr (.inr (.inr (.inr g_9)))))] ++ va_pl L_10 fp_11) := hD
  have hP9 := va_P.part (X := [(wy, .inr (10, [.ref nw, .ref q_1, .ref q_7, .ref q_8, .long 0, .int 0])), (q_1, .inl (G.2 5, 60, .inr (.inr (.inr (.inr g_2))))), (q_7, .inl (G.2 1, 60, .inr (.inl (fun _ => 0)))), (q_8, .inl (G.2 5, 60, .inr (.inr (.inr (.inr g_9)))))]) (cx := [(wy, .inr (10, [.ref nw, .ref q_1, .ref q_7, .ref q_8, .long 0, .int 0])), (q_1, .inl (G.2 5, 60, .inr (.inr (.inr (.inr g_2))))), (q_7, .inl (G.2 1, 60, .inr (.inl (fun _ => 0))))]) hP [0, 1, 2] rfl
  have hD9 := va_D.part (X := [(wy, .inr (10, [.ref nw, .ref q_1, .ref q_7, .ref q_8, .long 0, .int 0])), (q_1, .inl (G.2 5, 60, .inr (.inr (.inr (.inr g_2))))), (q_7, .inl (G.2 1, 60, .inr (.inl (fun _ => 0)))), (q_8, .inl (G.2 5, 60, .inr (.inr (.inr (.inr g_9)))))]) (cx := [(wy, .inr (10, [.ref nw, .ref q_1, .ref q_7, .ref q_8, .long 0, .int 0])), (q_1, .inl (G.2 5, 60, .inr (.inr (.inr (.inr g_2))))), (q_7, .inl (G.2 1, 60, .inr (.inl (fun _ => 0))))]) hD [0, 1, 2] (by decide) rfl
  exact W.vret hx hb hr (fun t ht hW => ⟨⟨(q_1, g_2, q_7, q_8, L_10, fp_11), rfl, ⟨hRo, hsub, hg_6⟩, ⟨by rw [ht]; exact hP9, hD9⟩⟩, hS.F ht⟩) hS.2.2 dX10_init_51

set_option maxHeartbeats 4000000 in
set_option maxRecDepth 100000 in
theorem k_pginit (l : Launch) (G : GG) (sz : Nat) (pg : Nat) (nw : Nat) (wy : Nat) (L : List Nat) (fp : Nat → va_E) (hRo : Ro G L fp) : Met l yX4_init (.code yX4_init cX4_init 3 none :: TT) ({ frames := 1, cells := 19, slots := 331, locals := 100 } : Room) (c0_P G [.ref pg, .ref nw, .ref wy] sz ([(pg, .inr (4, [.null, .null, .null, .int 0, .int 0, .null, .null, .int 0, .null, .null, .int 0, .int 0]))] ++ va_pl L fp)) (va_Qv (S := Unit) (fun (u : Unit) => True) (fun (u : Unit) (t : State) => ∃ (od : Nat) (gs : Nat) (tq : Nat) (on : Nat) (ot : Nat) (L2 : List Nat) (fp2 : Nat → va_E), (Ro G L2 fp2) ∧ (∀ a9, a9 ∈ L → a9 ∈ L2) ∧ c0_B G (va_A ([(pg, .inr (4, [.null, .null, .null, .int 0, .int 0, .null, .null, .int 0, .null, .null, .int 0, .int 0]))] ++ va_pl L fp) sz) ([(pg, .inr (4, [.ref nw, .ref wy, .ref od, .int 0, .int 0, .ref gs, .ref tq, .int 0, .ref on, .ref ot, .int 0, .int 0])), (tq, .inl (G.2 0, 1, .inl (fun _ => 0)))] ++ va_pl L2 fp2) t) (va_A ([(pg, .inr (4, [.null, .null, .null, .int 0, .int 0, .null, .null, .int 0, .null, .null, .int 0, .int 0]))] ++ va_pl L fp) sz)) 19 331 (va_A ([(pg, .inr (4, [.null, .null, .null, .int 0, .int 0, .null, .null, .int 0, .null, .null, .int 0, .int 0]))] ++ va_pl L fp) sz) := by
  refine Met.ofW (cc := cX4_init) (maxL := 3) (ret := none) (by decide) rfl ?_
  intro p e s m args below meth c s₁ B hml hv
  obtain ⟨rfl, hsz, hP, hK, hD0⟩ := hv
  have hx := B.exec
  have hb := B.bytes
  have hr := B.returns
  have hts := atoms_spec (ws := .code yX4_init cX4_init 3 none :: TT) B.pre
  have ht := fun (w : Cond) (h : w ∈ TT) => hts w (List.mem_cons_of_mem _ h)
  have hown : s.vm.findClass RX4 = some m.cls := findClass_of_methodNamed B.named
  have hlocks := B.notSynchronized
  have hin : meth.name = "<init>" := (name_of_methodNamed B.named B.method).1
  subst hsz
  have hD := hD0.self (sz := s.heap.size)
  generalize hAe : va_A ([(pg, .inr (4, [.null, .null, .null, .int 0, .int 0, .null, .null, .int 0, .null, .null, .int 0, .int 0]))] ++ va_pl L fp) s.heap.size = A at hD ⊢
  have hA : ∀ q : Nat, s.heap.size ≤ q → A q := fun q h => by rw [← hAe]; exact Or.inr h
  have hS : va_S A s.heap s.heap [] := va_S.rf
  have hP : va_P G.1 vwCl ([(pg, .inr (4, [.null, .null, .null, .int 0, .int 0, .null, .null, .int 0, .null, .null, .int 0, .int 0]))] ++ va_pl L fp) s.heap := hP
  have hl := lv_entry ([.ref pg, .ref nw, .ref wy]) (n := 3) (Nat.le_of_ble_eq_true rfl)
  rw [lg_entry_eq]
  generalize (lg_sl ([.ref pg, .ref nw, .ref wy]) ++ List.replicate (3 - (lg_sl ([.ref pg, .ref nw, .ref wy])).length) Slot.unset).toArray = ls at hl ⊢
  have hl : lv_has ls 3 [(0, .ref pg), (1, .ref nw), (2, .ref wy)] := hl
  have hsub : ∀ a9, a9 ∈ L → a9 ∈ L := fun _ h => h
  refine lv_aload_n hx hb dX4_init_0 rfl (lv_at hl 0 rfl) ?_
  refine W.objInit hx hb hown (ht (Cond.methodLink RX4 3 objectInit) mw_4_23) (ht (Cond.instanceMethod objectInit) mw_1_10) (ht (Cond.code objectInit ⟨#[0xb1]⟩ 1 none) mw_1_11) rfl (by rw [hml]; exact hl.1) rfl dX4_init_1 (Nat.le_of_ble_eq_true rfl) (Nat.le_of_ble_eq_true rfl) ?_
  refine W.eq (g2 := F0 m 4 ls []) rfl ?_
  refine lv_aload_n hx hb dX4_init_4 rfl (lv_at hl 0 rfl) ?_
  refine lv_bipush (v := 60) hx hb dX4_init_5 (by decide) ?_
  refine ns_new 0 (atype := .int) (ty := .int) (a0 := (60, .inl (fun _ => 0))) hx hb (ht (Cond.arrayClass .int) mw_2_13) rfl rfl (fun h => h) hK hP hD hS hA (fun _ => rfl) (by decide) (N' := 60) (by decide) (by decide) (Nat.le_of_ble_eq_true rfl) (Nat.le_of_ble_eq_true rfl) dX4_init_7 (fun q_1 H hP hD hS => ?_)
  have hP := va_P.swap hP
  have hD := va_D.swap hD
  have hP : va_P G.1 vwCl ([(pg, .inr (4, [.null, .null, .null, .int 0, .int 0, .null, .null, .int 0, .null, .null, .int 0, .int 0])), (q_1, .inl (G.2 0, 60, .inl (fun _ => 0)))] ++ va_pl L fp) H := hP
  have hD : va_D A ([(pg, .inr (4, [.null, .null, .null, .int 0, .int 0, .null, .null, .int 0, .null, .null, .int 0, .int 0])), (q_1, .inl (G.2 0, 60, .inl (fun _ => 0)))] ++ va_pl L fp) := hD
  refine W.widen (k := 1) (n := 60) (by omega) (by omega) ?_
  refine va_putF (D := G.1) (ci := 4) (v := .ref q_1) (ty := tyX4 2) (C := RX4) (T := TX4) (N := 12) hx hb ht inlX4 tyX4 tyX4_ok nmX4 hown hK.1 hP hD hS 0 rfl rfl 2 (by decide) (ht (Cond.fieldLink RX4 9 "PloughDepot$Pairing" "odds" "[I") mw_5_0) (fun _ h9 => h9) rfl hin rfl (tyX4_ok 2 (by decide)) rfl rfl (Nat.le_of_ble_eq_true rfl) dX4_init_9 (fun H locs hP hD hS => ?_)
  have hP : va_P G.1 vwCl ([(pg, .inr (4, [.null, .null, .ref q_1, .int 0, .int 0, .null, .null, .int 0, .null, .null, .int 0, .int 0])), (q_1, .inl (G.2 0, 60, .inl (fun _ => 0)))] ++ va_pl L fp) H := hP
  have hD : va_D A ([(pg, .inr (4, [.null, .null, .ref q_1, .int 0, .int 0, .null, .null, .int 0, .null, .null, .int 0, .int 0])), (q_1, .inl (G.2 0, 60, .inl (fun _ => 0)))] ++ va_pl L fp) := hD
  refine lv_aload_n hx hb dX4_init_12 rfl (lv_at hl 0 rfl) ?_
  refine lv_iconst (v := 0) hx hb dX4_init_13 (by decide) ?_
  refine va_put (D := G.1) (ci := 4) (v := .int 0) (ty := tyX4 3) (C := RX4) (T := TX4) (N := 12) hx hb ht inlX4 tyX4 tyX4_ok nmX4 hown hK.1 hP hD hS 0 rfl rfl 3 (by decide) (ht (Cond.fieldLink RX4 15 "PloughDepot$Pairing" "many" "I") mw_5_1) (fun _ h9 => h9) rfl (tyX4_ok 3 (by decide)) rfl rfl (Nat.le_of_ble_eq_true rfl) dX4_init_14 (fun H locs hP hD hS => ?_)
  have hP : va_P G.1 vwCl ([(pg, .inr (4, [.null, .null, .ref q_1, .int 0, .int 0, .null, .null, .int 0, .null, .null, .int 0, .int 0])), (q_1, .inl (G.2 0, 60, .inl (fun _ => 0)))] ++ va_pl L fp) H := hP
  have hD : va_D A ([(pg, .inr (4, [.null, .null, .ref q_1, .int 0, .int 0, .null, .null, .int 0, .null, .null, .int 0, .int 0])), (q_1, .inl (G.2 0, 60, .inl (fun _ => 0)))] ++ va_pl L fp) := hD
  refine lv_aload_n hx hb dX4_init_17 rfl (lv_at hl 0 rfl) ?_
  refine lv_iconst (v := 0) hx hb dX4_init_18 (by decide) ?_
  refine va_put (D := G.1) (ci := 4) (v := .int 0) (ty := tyX4 4) (C := RX4) (T := TX4) (N := 12) hx hb ht inlX4 tyX4 tyX4_ok nmX4 hown hK.1 hP hD hS 0 rfl rfl 4 (by decide) (ht (Cond.fieldLink RX4 19 "PloughDepot$Pairing" "listed" "Z") mw_5_2) (fun _ h9 => h9) rfl (tyX4_ok 4 (by decide)) rfl rfl (Nat.le_of_ble_eq_true rfl) dX4_init_19 (fun H locs hP hD hS => ?_)
  have hP : va_P G.1 vwCl ([(pg, .inr (4, [.null, .null, .ref q_1, .int 0, .int 0, .null, .null, .int 0, .null, .null, .int 0, .int 0])), (q_1, .inl (G.2 0, 60, .inl (fun _ => 0)))] ++ va_pl L fp) H := hP
  have hD : va_D A ([(pg, .inr (4, [.null, .null, .ref q_1, .int 0, .int 0, .null, .null, .int 0, .null, .null, .int 0, .int 0])), (q_1, .inl (G.2 0, 60, .inl (fun _ => 0)))] ++ va_pl L fp) := hD
  refine lv_aload_n hx hb dX4_init_22 rfl (lv_at hl 0 rfl) ?_
  refine lv_bipush (v := 14) hx hb dX4_init_23 (by decide) ?_
  refine lv_bipush (v := 14) hx hb dX4_init_25 (by decide) ?_
  refine ns_mna (X := [(pg, .inr (4, [.null, .null, .ref q_1, .int 0, .int 0, .null, .null, .int 0, .null, .null, .int 0, .int 0])), (q_1, .inl (G.2 0, 60, .inl (fun _ => 0)))]) hx hb hown (ht (Cond.classLink RX4 23 "[[I") mw_5_3) (ht (Cond.arrayClass .int) mw_2_13) hK hRo hP hD hS hA (by decide) (by decide) (N' := 14) (by decide) (K' := 14) (by decide) (by decide) (by decide) (by decide) (Nat.le_of_ble_eq_true rfl) (Nat.le_of_ble_eq_true rfl) dX4_init_27 (fun q_2 g_3 L_4 fp_5 H hRo hsb_6 hg_7 hP hD hS => ?_)
  have hsub := fun (a9 : Nat) h => hsb_6 a9 (hsub a9 h)
  have hP : va_P G.1 vwCl ([(pg, .inr (4, [.null, .null, .ref q_1, .int 0, .int 0, .null, .null, .int 0, .null, .null, .int 0, .int 0])), (q_1, .inl (G.2 0, 60, .inl (fun _ => 0))), (q_2, .inl (G.2 5, 14, .inr (.inr (.inr (.inr g_3)))))] ++ va_pl L_4 fp_5) H := hP
  have hD : va_D A ([(pg, .inr (4, [.null, .null, .ref q_1, .int 0, .int 0, .null, .null, .int 0, .null, .null, .int 0, .int 0])), (q_1, .inl (G.2 0, 60, .inl (fun _ => 0))), (q_2, .inl (G.2 5, 14, .inr (.inr (.inr (.inr g_3)))))] ++ va_pl L_4 fp_5) := hD
  refine W.widen (k := 16) (n := 270) (by omega) (by omega) ?_
  refine va_putF (D := G.1) (ci := 4) (v := .ref q_2) (ty := tyX4 5) (C := RX4) (T := TX4) (N := 12) hx hb ht inlX4 tyX4 tyX4_ok nmX4 hown hK.1 hP hD hS 0 rfl rfl 5 (by decide) (ht (Cond.fieldLink RX4 25 "PloughDepot$Pairing" "gaps" "[[I") mw_5_4) (fun _ h9 => h9) rfl hin rfl (tyX4_ok 5 (by decide)) rfl rfl (Nat.le_of_ble_eq_true rfl) dX4_init_31 (fun H locs hP hD hS => ?_)
  have hP : va_P G.1 vwCl ([(pg, .inr (4, [.null, .null, .ref q_1, .int 0, .int 0, .ref q_2, .null, .int 0, .null, .null, .int 0, .int 0])), (q_1, .inl (G.2 0, 60, .inl (fun _ => 0))), (q_2, .inl (G.2 5, 14, .inr (.inr (.inr (.inr g_3)))))] ++ va_pl L_4 fp_5) H := hP
  have hD : va_D A ([(pg, .inr (4, [.null, .null, .ref q_1, .int 0, .int 0, .ref q_2, .null, .int 0, .null, .null, .int 0, .int 0])), (q_1, .inl (G.2 0, 60, .inl (fun _ => 0))), (q_2, .inl (G.2 5, 14, .inr (.inr (.inr (.inr g_3)))))] ++ va_pl L_4 fp_5) := hD
  refine lv_aload_n hx hb dX4_init_34 rfl (lv_at hl 0 rfl) ?_
  refine lv_iconst (v := 1) hx hb dX4_init_35 (by decide) ?_
  refine ns_new 0 (atype := .int) (ty := .int) (a0 := (1, .inl (fun _ => 0))) hx hb (ht (Cond.arrayClass .int) mw_2_13) rfl rfl (fun h => h) hK hP hD hS hA (fun _ => rfl) (by decide) (N' := 1) (by decide) (by decide) (Nat.le_of_ble_eq_true rfl) (Nat.le_of_ble_eq_true rfl) dX4_init_36 (fun q_8 H hP hD hS => ?_)
  have hP := va_P.swap hP
  have hD := va_D.swap hD
  have hP : va_P G.1 vwCl ([(pg, .inr (4, [.null, .null, .ref q_1, .int 0, .int 0, .ref q_2, .null, .int 0, .null, .null, .int 0, .int 0])), (q_1, .inl (G.2 0, 60, .inl (fun _ => 0))), (q_2, .inl (G.2 5, 14, .inr (.inr (.inr (.inr g_3))))), (q_8, .inl (G.2 0, 1, .inl (fun _ => 0)))] ++ va_pl L_4 fp_5) H := hP
  have hD : va_D A ([(pg, .inr (4, [.null, .null, .ref q_1, .int 0, .int 0, .ref q_2, .null, .int 0, .null, .null, .int 0, .int 0])), (q_1, .inl (G.2 0, 60, .inl (fun _ => 0))), (q_2, .inl (G.2 5, 14, .inr (.inr (.inr (.inr g_3))))), (q_8, .inl (G.2 0, 1, .inl (fun _ => 0)))] ++ va_pl L_4 fp_5) := hD
  refine W.widen (k := 17) (n := 271) (by omega) (by omega) ?_
  refine va_put (D := G.1) (ci := 4) (v := .ref q_8) (ty := tyX4 6) (C := RX4) (T := TX4) (N := 12) hx hb ht inlX4 tyX4 tyX4_ok nmX4 hown hK.1 hP hD hS 0 rfl rfl 6 (by decide) (ht (Cond.fieldLink RX4 28 "PloughDepot$Pairing" "table" "[I") mw_5_5) (fun _ h9 => h9) rfl (tyX4_ok 6 (by decide)) rfl rfl (Nat.le_of_ble_eq_true rfl) dX4_init_38 (fun H locs hP hD hS => ?_)
  have hP : va_P G.1 vwCl ([(pg, .inr (4, [.null, .null, .ref q_1, .int 0, .int 0, .ref q_2, .ref q_8, .int 0, .null, .null, .int 0, .int 0])), (q_1, .inl (G.2 0, 60, .inl (fun _ => 0))), (q_2, .inl (G.2 5, 14, .inr (.inr (.inr (.inr g_3))))), (q_8, .inl (G.2 0, 1, .inl (fun _ => 0)))] ++ va_pl L_4 fp_5) H := hP
  have hD : va_D A ([(pg, .inr (4, [.null, .null, .ref q_1, .int 0, .int 0, .ref q_2, .ref q_8, .int 0, .null, .null, .int 0, .int 0])), (q_1, .inl (G.2 0, 60, .inl (fun _ => 0))), (q_2, .inl (G.2 5, 14, .inr (.inr (.inr (.inr g_3))))), (q_8, .inl (G.2 0, 1, .inl (fun _ => 0)))] ++ va_pl L_4 fp_5) := hD
  refine lv_aload_n hx hb dX4_init_41 rfl (lv_at hl 0 rfl) ?_
  refine lv_iconst (v := 0) hx hb dX4_init_42 (by decide) ?_
  refine va_put (D := G.1) (ci := 4) (v := .int 0) (ty := tyX4 7) (C := RX4) (T := TX4) (N := 12) hx hb ht inlX4 tyX4 tyX4_ok nmX4 hown hK.1 hP hD hS 0 rfl rfl 7 (by decide) (ht (Cond.fieldLink RX4 31 "PloughDepot$Pairing" "tabled" "Z") mw_5_6) (fun _ h9 => h9) rfl (tyX4_ok 7 (by decide)) rfl rfl (Nat.le_of_ble_eq_true rfl) dX4_init_43 (fun H locs hP hD hS => ?_)
  have hP : va_P G.1 vwCl ([(pg, .inr (4, [.null, .null, .ref q_1, .int 0, .int 0, .ref q_2, .ref q_8, .int 0, .null, .null, .int 0, .int 0])), (q_1, .inl (G.2 0, 60, .inl (fun _ => 0))), (q_2, .inl (G.2 5, 14, .inr (.inr (.inr (.inr g_3))))), (q_8, .inl (G.2 0, 1, .inl (fun _ => 0)))] ++ va_pl L_4 fp_5) H := hP
  have hD : va_D A ([(pg, .inr (4, [.null, .null, .ref q_1, .int 0, .int 0, .ref q_2, .ref q_8, .int 0, .null, .null, .int 0, .int 0])), (q_1, .inl (G.2 0, 60, .inl (fun _ => 0))), (q_2, .inl (G.2 5, 14, .inr (.inr (.inr (.inr g_3))))), (q_8, .inl (G.2 0, 1, .inl (fun _ => 0)))] ++ va_pl L_4 fp_5) := hD
  refine lv_aload_n hx hb dX4_init_46 rfl (lv_at hl 0 rfl) ?_
  refine lv_bipush (v := 30) hx hb dX4_init_47 (by decide) ?_
  refine ns_new 0 (atype := .int) (ty := .int) (a0 := (30, .inl (fun _ => 0))) hx hb (ht (Cond.arrayClass .int) mw_2_13) rfl rfl (fun h => h) hK hP hD hS hA (fun _ => rfl) (by decide) (N' := 30) (by decide) (by decide) (Nat.le_of_ble_eq_true rfl) (Nat.le_of_ble_eq_true rfl) dX4_init_49 (fun q_9 H hP hD hS => ?_)
  have hP := va_P.swap hP
  have hD := va_D.swap hD
  have hP : va_P G.1 vwCl ([(pg, .inr (4, [.null, .null, .ref q_1, .int 0, .int 0, .ref q_2, .ref q_8, .int 0, .null, .null, .int 0, .int 0])), (q_1, .inl (G.2 0, 60, .inl (fun _ => 0))), (q_2, .inl (G.2 5, 14, .inr (.inr (.inr (.inr g_3))))), (q_8, .inl (G.2 0, 1, .inl (fun _ => 0))), (q_9, .inl (G.2 0, 30, .inl (fun _ => 0)))] ++ va_pl L_4 fp_5) H := hP
  have hD : va_D A ([(pg, .inr (4, [.null, .null, .ref q_1, .int 0, .int 0, .ref q_2, .ref q_8, .int 0, .null, .null, .int 0, .int 0])), (q_1, .inl (G.2 0, 60, .inl (fun _ => 0))), (q_2, .inl (G.2 5, 14, .inr (.inr (.inr (.inr g_3))))), (q_8, .inl (G.2 0, 1, .inl (fun _ => 0))), (q_9, .inl (G.2 0, 30, .inl (fun _ => 0)))] ++ va_pl L_4 fp_5) := hD
  refine W.widen (k := 18) (n := 301) (by omega) (by omega) ?_
  refine va_putF (D := G.1) (ci := 4) (v := .ref q_9) (ty := tyX4 8) (C := RX4) (T := TX4) (N := 12) hx hb ht inlX4 tyX4 tyX4_ok nmX4 hown hK.1 hP hD hS 0 rfl rfl 8 (by decide) (ht (Cond.fieldLink RX4 34 "PloughDepot$Pairing" "ones" "[I") mw_5_7) (fun _ h9 => h9) rfl hin rfl (tyX4_ok 8 (by decide)) rfl rfl (Nat.le_of_ble_eq_true rfl) dX4_init_51 (fun H locs hP hD hS => ?_)
  have hP : va_P G.1 vwCl ([(pg, .inr (4, [.null, .null, .ref q_1, .int 0, .int 0, .ref q_2, .ref q_8, .int 0, .ref q_9, .null, .int 0, .int 0])), (q_1, .inl (G.2 0, 60, .inl (fun _ => 0))), (q_2, .inl (G.2 5, 14, .inr (.inr (.inr (.inr g_3))))), (q_8, .inl (G.2 0, 1, .inl (fun _ => 0))), (q_9, .inl (G.2 0, 30, .inl (fun _ => 0)))] ++ va_pl L_4 fp_5) H := hP
  have hD : va_D A ([(pg, .inr (4, [.null, .null, .ref q_1, .int 0, .int 0, .ref q_2, .ref q_8, .int 0, .ref q_9, .null, .int 0, .int 0])), (q_1, .inl (G.2 0, 60, .inl (fun _ => 0))), (q_2, .inl (G.2 5, 14, .inr (.inr (.inr (.inr g_3))))), (q_8, .inl (G.2 0, 1, .inl (fun _ => 0))), (q_9, .inl (G.2 0, 30, .inl (fun _ => 0)))] ++ va_pl L_4 fp_5) := hD
  refine lv_aload_n hx hb dX4_init_54 rfl (lv_at hl 0 rfl) ?_
  refine lv_bipush (v := 30) hx hb dX4_init_55 (by decide) ?_
  refine ns_new 0 (atype := .int) (ty := .int) (a0 := (30, .inl (fun _ => 0))) hx hb (ht (Cond.arrayClass .int) mw_2_13) rfl rfl (fun h => h) hK hP hD hS hA (fun _ => rfl) (by decide) (N' := 30) (by decide) (by decide) (Nat.le_of_ble_eq_true rfl) (Nat.le_of_ble_eq_true rfl) dX4_init_57 (fun q_10 H hP hD hS => ?_)
  have hP := va_P.swap hP
  have hD := va_D.swap hD
  have hP : va_P G.1 vwCl ([(pg, .inr (4, [.null, .null, .ref q_1, .int 0, .int 0, .ref q_2, .ref q_8, .int 0, .ref q_9, .null, .int 0, .int 0])), (q_1, .inl (G.2 0, 60, .inl (fun _ => 0))), (q_2, .inl (G.2 5, 14, .inr (.inr (.inr (.inr g_3))))), (q_8, .inl (G.2 0, 1, .inl (fun _ => 0))), (q_9, .inl (G.2 0, 30, .inl (fun _ => 0))), (q_10, .inl (G.2 0, 30, .inl (fun _ => 0)))] ++ va_pl L_4 fp_5) H := hP
  have hD : va_D A ([(pg, .inr (4, [.null, .null, .ref q_1, .int 0, .int 0, .ref q_2, .ref q_8, .int 0, .ref q_9, .null, .int 0, .int 0])), (q_1, .inl (G.2 0, 60, .inl (fun _ => 0))), (q_2, .inl (G.2 5, 14, .inr (.inr (.inr (.inr g_3))))), (q_8, .inl (G.2 0, 1, .inl (fun _ => 0))), (q_9, .inl (G.2 0, 30, .inl (fun _ => 0))), (q_10, .inl (G.2 0, 30, .inl (fun _ => 0)))] ++ va_pl L_4 fp_5) := hD
  refine W.widen (k := 19) (n := 331) (by omega) (by omega) ?_
  refine va_putF (D := G.1) (ci := 4) (v := .ref q_10) (ty := tyX4 9) (C := RX4) (T := TX4) (N := 12) hx hb ht inlX4 tyX4 tyX4_ok nmX4 hown hK.1 hP hD hS 0 rfl rfl 9 (by decide) (ht (Cond.fieldLink RX4 37 "PloughDepot$Pairing" "others" "[I") mw_5_8) (fun _ h9 => h9) rfl hin rfl (tyX4_ok 9 (by decide)) rfl rfl (Nat.le_of_ble_eq_true rfl) dX4_init_59 (fun H locs hP hD hS => ?_)
  have hP : va_P G.1 vwCl ([(pg, .inr (4, [.null, .null, .ref q_1, .int 0, .int 0, .ref q_2, .ref q_8, .int 0, .ref q_9, .ref q_10, .int 0, .int 0])), (q_1, .inl (G.2 0, 60, .inl (fun _ => 0))), (q_2, .inl (G.2 5, 14, .inr (.inr (.inr (.inr g_3))))), (q_8, .inl (G.2 0, 1, .inl (fun _ => 0))), (q_9, .inl (G.2 0, 30, .inl (fun _ => 0))), (q_10, .inl (G.2 0, 30, .inl (fun _ => 0)))] ++ va_pl L_4 fp_5) H := hP
  have hD : va_D A ([(pg, .inr (4, [.null, .null, .ref q_1, .int 0, .int 0, .ref q_2, .ref q_8, .int 0, .ref q_9, .ref q_10, .int 0, .int 0])), (q_1, .inl (G.2 0, 60, .inl (fun _ => 0))), (q_2, .inl (G.2 5, 14, .inr (.inr (.inr (.inr g_3))))), (q_8, .inl (G.2 0, 1, .inl (fun _ => 0))), (q_9, .inl (G.2 0, 30, .inl (fun _ => 0))), (q_10, .inl (G.2 0, 30, .inl (fun _ => 0)))] ++ va_pl L_4 fp_5) := hD
  refine lv_aload_n hx hb dX4_init_62 rfl (lv_at hl 0 rfl) ?_
  refine lv_iconst (v := 0) hx hb dX4_init_63 (by decide) ?_
  refine va_put (D := G.1) (ci := 4) (v := .int 0) (ty := tyX4 10) (C := RX4) (T := TX4) (N := 12) hx hb ht inlX4 tyX4 tyX4_ok nmX4 hown hK.1 hP hD hS 0 rfl rfl 10 (by decide) (ht (Cond.fieldLink RX4 40 "PloughDepot$Pairing" "pairs" "I") mw_5_9) (fun _ h9 => h9) rfl (tyX4_ok 10 (by decide)) rfl rfl (Nat.le_of_ble_eq_true rfl) dX4_init_64 (fun H locs hP hD hS => ?_)
  have hP : va_P G.1 vwCl ([(pg, .inr (4, [.null, .null, .ref q_1, .int 0, .int 0, .ref q_2, .ref q_8, .int 0, .ref q_9, .ref q_10, .int 0, .int 0])), (q_1, .inl (G.2 0, 60, .inl (fun _ => 0))), (q_2, .inl (G.2 5, 14, .inr (.inr (.inr (.inr g_3))))), (q_8, .inl (G.2 0, 1, .inl (fun _ => 0))), (q_9, .inl (G.2 0, 30, .inl (fun _ => 0))), (q_10, .inl (G.2 0, 30, .inl (fun _ => 0)))] ++ va_pl L_4 fp_5) H := hP
  have hD : va_D A ([(pg, .inr (4, [.null, .null, .ref q_1, .int 0, .int 0, .ref q_2, .ref q_8, .int 0, .ref q_9, .ref q_10, .int 0, .int 0])), (q_1, .inl (G.2 0, 60, .inl (fun _ => 0))), (q_2, .inl (G.2 5, 14, .inr (.inr (.inr (.inr g_3))))), (q_8, .inl (G.2 0, 1, .inl (fun _ => 0))), (q_9, .inl (G.2 0, 30, .inl (fun _ => 0))), (q_10, .inl (G.2 0, 30, .inl (fun _ => 0)))] ++ va_pl L_4 fp_5) := hD
  refine lv_aload_n hx hb dX4_init_67 rfl (lv_at hl 0 rfl) ?_
  refine lv_iconst (v := 0) hx hb dX4_init_68 (by decide) ?_
  refine va_put (D := G.1) (ci := 4) (v := .int 0) (ty := tyX4 11) (C := RX4) (T := TX4) (N := 12) hx hb ht inlX4 tyX4 tyX4_ok nmX4 hown hK.1 hP hD hS 0 rfl rfl 11 (by decide) (ht (Cond.fieldLink RX4 43 "PloughDepot$Pairing" "exchanges" "I") mw_5_10) (fun _ h9 => h9) rfl (tyX4_ok 11 (by decide)) rfl rfl (Nat.le_of_ble_eq_true rfl) dX4_init_69 (fun H locs hP hD hS => ?_)
  have hP : va_P G.1 vwCl ([(pg, .inr (4, [.null, .null, .ref q_1, .int 0, .int 0, .ref q_2, .ref q_8, .int 0, .ref q_9, .ref q_10, .int 0, .int 0])), (q_1, .inl (G.2 0, 60, .inl (fun _ => 0))), (q_2, .inl (G.2 5, 14, .inr (.inr (.inr (.inr g_3))))), (q_8, .inl (G.2 0, 1, .inl (fun _ => 0))), (q_9, .inl (G.2 0, 30, .inl (fun _ => 0))), (q_10, .inl (G.2 0, 30, .inl (fun _ => 0)))] ++ va_pl L_4 fp_5) H := hP
  have hD : va_D A ([(pg, .inr (4, [.null, .null, .ref q_1, .int 0, .int 0, .ref q_2, .ref q_8, .int 0, .ref q_9, .ref q_10, .int 0, .int 0])), (q_1, .inl (G.2 0, 60, .inl (fun _ => 0))), (q_2, .inl (G.2 5, 14, .inr (.inr (.inr (.inr g_3))))), (q_8, .inl (G.2 0, 1, .inl (fun _ => 0))), (q_9, .inl (G.2 0, 30, .inl (fun _ => 0))), (q_10, .inl (G.2 0, 30, .inl (fun _ => 0)))] ++ va_pl L_4 fp_5) := hD
  refine lv_aload_n hx hb dX4_init_72 rfl (lv_at hl 0 rfl) ?_
  refine lv_aload_n hx hb dX4_init_73 rfl (lv_at hl 1 rfl) ?_
  refine va_putF (D := G.1) (ci := 4) (v := .ref nw) (ty := tyX4 0) (C := RX4) (T := TX4) (N := 12) hx hb ht inlX4 tyX4 tyX4_ok nmX4 hown hK.1 hP hD hS 0 rfl rfl 0 (by decide) (ht (Cond.fieldLink RX4 46 "PloughDepot$Pairing" "books" "LPloughDepot$Books;") mw_5_11) (fun _ h9 => h9) rfl hin rfl (tyX4_ok 0 (by decide)) rfl rfl (Nat.le_of_ble_eq_true rfl) dX4_init_74 (fun H locs hP hD hS => ?_)
  have hP : va_P G.1 vwCl ([(pg, .inr (4, [.ref nw, .null, .ref q_1, .int 0, .int 0, .ref q_2, .ref q_8, .int 0, .ref q_9, .ref q_10, .int 0, .int 0])), (q_1, .inl (G.2 0, 60, .inl (fun _ => 0))), (q_2, .inl (G.2 5, 14, .inr (.inr (.inr (.inr g_3))))), (q_8, .inl (G.2 0, 1, .inl (fun _ => 0))), (q_9, .inl (G.2 0, 30, .inl (fun _ => 0))), (q_10, .inl (G.2 0, 30, .inl (fun _ => 0)))] ++ va_pl L_4 fp_5) H := hP
  have hD : va_D A ([(pg, .inr (4, [.ref nw, .null, .ref q_1, .int 0, .int 0, .ref q_2, .ref q_8, .int 0, .ref q_9, .ref q_10, .int 0, .int 0])), (q_1, .inl (G.2 0, 60, .inl (fun _ => 0))), (q_2, .inl (G.2 5, 14, .inr (.inr (.inr (.inr g_3))))), (q_8, .inl (G.2 0, 1, .inl (fun _ => 0))), (q_9, .inl (G.2 0, 30, .inl (fun _ => 0))), (q_10, .inl (G.2 0, 30, .inl (fun _ => 0)))] ++ va_pl L_4 fp_5) := hD
  refine lv_aload_n hx hb dX4_init_77 rfl (lv_at hl 0 rfl) ?_
  refine lv_aload_n hx hb dX4_init_78 rfl (lv_at hl 2 rfl) ?_
  refine va_putF (D := G.1) (ci := 4) (v := .ref wy) (ty := tyX4 1) (C := RX4) (T := TX4) (N := 12) hx hb ht inlX4 tyX4 tyX4_ok nmX4 hown hK.1 hP hD hS 0 rfl rfl 1 (by decide) (ht (Cond.fieldLink RX4 50 "PloughDepot$Pairing" "ways" "LPloughDepot$Ways;") mw_5_12) (fun _ h9 => h9) rfl hin rfl (tyX4_ok 1 (by decide)) rfl rfl (Nat.le_of_ble_eq_true rfl) dX4_init_79 (fun H locs hP hD hS => ?_)
  have hP : va_P G.1 vwCl ([(pg, .inr (4, [.ref nw, .ref wy, .ref q_1, .int 0, .int 0, .ref q_2, .ref q_8, .int 0, .ref q_9, .ref q_10, .int 0, .int 0])), (q_1, .inl (G.2 0, 60, .inl (fun _ => 0))), (q_2, .inl (G.2 5, 14, .inr (.inr (.inr (.inr g_3))))), (q_8, .inl (G.2 0, 1, .inl (fun _ => 0))), (q_9, .inl (G.2 0, 30, .inl (fun _ => 0))), (q_10, .inl (G.2 0, 30, .inl (fun _ => 0)))] ++ va_pl L_4 fp_5) H := hP
  have hD : va_D A ([(pg, .inr (4, [.ref nw, .ref wy, .ref q_1, .int 0, .int 0, .ref q_2, .ref q_8, .int 0, .ref q_9, .ref q_10, .int 0, .int 0])), (q_1, .inl (G.2 0, 60, .inl (fun _ => 0))), (q_2, .inl (G.2 5, 14, .inr (.inr (.inr (.inr g_3))))), (q_8, .inl (G.2 0, 1, .inl (fun _ => 0))), (q_9, .inl (G.2 0, 30, .inl (fun _ => 0))), (q_10, .inl (G.2 0, 30, .inl (fun _ => 0)))] ++ va_pl L_4 fp_5) := hD
  have hP9 := va_P.part (X := [(pg, .inr (4, [.ref nw, .ref wy, .ref q_1, .int 0, .int 0, .ref q_2, .ref q_8, .int 0, .ref q_9, .ref q_10, .int 0, .int 0])), (q_1, .inl (G.2 0, 60, .inl (fun _ => 0))), (q_2, .inl (G.2 5, 14, .inr (.inr (.inr (.inr g_3))))), (q_8, .inl (G.2 0, 1, .inl (fun _ => 0))), (q_9, .inl (G.2 0, 30, .inl (fun _ => 0))), (q_10, .inl (G.2 0, 30, .inl (fun _ => 0)))]) (cx := [(pg, .inr (4, [.ref nw, .ref wy, .ref q_1, .int 0, .int 0, .ref q_2, .ref q_8, .int 0, .ref q_9, .ref q_10, .int 0, .int 0])), (q_8, .inl (G.2 0, 1, .inl (fun _ => 0)))]) hP [0, 3] rfl
  have hD9 := va_D.part (X := [(pg, .inr (4, [.ref nw, .ref wy, .ref q_1, .int 0, .int 0, .ref q_2, .ref q_8, .int 0, .ref q_9, .ref q_10, .int 0, .int 0])), (q_1, .inl (G.2 0, 60, .inl (fun _ => 0))), (q_2, .inl (G.2 5, 14, .inr (.inr (.inr (.inr g_3))))), (q_8, .inl (G.2 0, 1, .inl (fun _ => 0))), (q_9, .inl (G.2 0, 30, .inl (fun _ => 0))), (q_10, .inl (G.2 0, 30, .inl (fun _ => 0)))]) (cx := [(pg, .inr (4, [.ref nw, .ref wy, .ref q_1, .int 0, .int 0, .ref q_2, .ref q_8, .int 0, .ref q_9, .ref q_10, .int 0, .int 0])), (q_8, .inl (G.2 0, 1, .inl (fun _ => 0)))]) hD [0, 3] (by decide) rfl
  exact W.vret hx hb hr (fun t ht hW => ⟨⟨(), rfl, trivial, ⟨q_1, q_2, q_8, q_9, q_10, L_4, fp_5, hRo, hsub, ⟨by rw [ht]; exact hP9, hD9⟩⟩⟩, hS.F ht⟩) hS.2.2 dX4_init_82

set_option maxHeartbeats 4000000 in
set_option maxRecDepth 100000 in
theorem k_pninit (l : Launch) (G : GG) (sz : Nat) (pn : Nat) (nw : Nat) (wy : Nat) (pg : Nat) (L : List Nat) (fp : Nat → va_E) (hRo : Ro G L fp) : Met l yX5_init (.code yX5_init cX5_init 4 none :: TT) ({ frames := 2, cells := 13, slots := 797, locals := 200 } : Room) (c0_P G [.ref pn, .ref nw, .ref wy, .ref pg] sz ([(pn, .inr (5, [.null, .null, .null, .null, .null, .null, .null, .null, .int 0, .null, .null, .null, .int 0]))] ++ va_pl L fp)) (va_Qv (S := Unit) (fun (u : Unit) => True) (fun (u : Unit) (t : State) => ∃ (pd : Nat) (pfa : Nat) (ppa : Nat) (ea : Nat) (eb : Nat) (lf : Nat) (du : Nat) (nr : Nat) (pdo : Nat) (pdg : Nat → Option Nat) (L2 : List Nat) (fp2 : Nat → va_E), (Ro G L2 fp2) ∧ (∀ a9, a9 ∈ L → a9 ∈ L2) ∧ (Gr L2 pdg 4) ∧ c0_B G (va_A ([(pn, .inr (5, [.null, .null, .null, .null, .null, .null, .null, .null, .int 0, .null, .null, .null, .int 0]))] ++ va_pl L fp) sz) ([(pn, .inr (5, [.ref nw, .ref wy, .ref pg, .ref pd, .ref pfa, .ref ppa, .ref ea, .ref eb, .int 0, .ref lf, .ref du, .ref nr, .int 0])), (pd, .inr (8, [.ref pdo, .int 0])), (pdo, .inl (G.2 5, 4, .inr (.inr (.inr (.inr pdg))))), (pfa, .inl (G.2 0, 7, .inl (fun _ => 0))), (ppa, .inl (G.2 0, 60, .inl (fun _ => 0))), (nr, .inl (G.2 1, 60, .inr (.inl (fun _ => 0))))] ++ va_pl L2 fp2) t) (va_A ([(pn, .inr (5, [.null, .null, .null, .null, .null, .null, .null, .null, .int 0, .null, .null, .null, .int 0]))] ++ va_pl L fp) sz)) 13 797 (va_A ([(pn, .inr (5, [.null, .null, .null, .null, .null, .null, .null, .null, .int 0, .null, .null, .null, .int 0]))] ++ va_pl L fp) sz) := by
  refine Met.ofW (cc := cX5_init) (maxL := 4) (ret := none) (by decide) rfl ?_
  intro p e s m args below meth c s₁ B hml hv
  obtain ⟨rfl, hsz, hP, hK, hD0⟩ := hv
  have hx := B.exec
  have hb := B.bytes
  have hr := B.returns
  have hts := atoms_spec (ws := .code yX5_init cX5_init 4 none :: TT) B.pre
  have ht := fun (w : Cond) (h : w ∈ TT) => hts w (List.mem_cons_of_mem _ h)
  have hown : s.vm.findClass RX5 = some m.cls := findClass_of_methodNamed B.named
  have hlocks := B.notSynchronized
  have hin : meth.name = "<init>" := (name_of_methodNamed B.named B.method).1
  subst hsz
  have hD := hD0.self (sz := s.heap.size)
  generalize hAe : va_A ([(pn, .inr (5, [.null, .null, .null, .null, .null, .null, .null, .null, .int 0, .null, .null, .null, .int 0]))] ++ va_pl L fp) s.heap.size = A at hD ⊢
  have hA : ∀ q : Nat, s.heap.size ≤ q → A q := fun q h => by rw [← hAe]; exact Or.inr h
  have hS : va_S A s.heap s.heap [] := va_S.rf
  have hP : va_P G.1 vwCl ([(pn, .inr (5, [.null, .null, .null, .null, .null, .null, .null, .null, .int 0, .null, .null, .null, .int 0]))] ++ va_pl L fp) s.heap := hP
  have hl := lv_entry ([.ref pn, .ref nw, .ref wy, .ref pg]) (n := 4) (Nat.le_of_ble_eq_true rfl)
  rw [lg_entry_eq]
  generalize (lg_sl ([.ref pn, .ref nw, .ref wy, .ref pg]) ++ List.replicate (4 - (lg_sl ([.ref pn, .ref nw, .ref wy, .ref pg])).length) Slot.unset).toArray = ls at hl ⊢
  have hl : lv_has ls 4 [(0, .ref pn), (1, .ref nw), (2, .ref wy), (3, .ref pg)] := hl
  have hsub : ∀ a9, a9 ∈ L → a9 ∈ L := fun _ h => h
  refine lv_aload_n hx hb dX5_init_0 rfl (lv_at hl 0 rfl) ?_
  refine W.objInit hx hb hown (ht (Cond.methodLink RX5 3 objectInit) mw_5_16) (ht (Cond.instanceMethod objectInit) mw_1_10) (ht (Cond.code objectInit ⟨#[0xb1]⟩ 1 none) mw_1_11) rfl (by rw [hml]; exact hl.1) rfl dX5_init_1 (Nat.le_of_ble_eq_true rfl) (Nat.le_of_ble_eq_true rfl) ?_
  refine W.eq (g2 := F0 m 4 ls []) rfl ?_
  refine lv_aload_n hx hb dX5_init_4 rfl (lv_at hl 0 rfl) ?_
  refine va_new (D := G.1) (ci := 8) (fs := [.null, .int 0]) (C := RX8) (T := TX8) (N := 2) hx hb ht inlX8 tyX8 tyX8_ok hown (ht (Cond.classLink RX5 9 RX8) mw_5_17) (ht (Cond.instantiable RX8 2) mw_3_12) (ht (Cond.initialized RX8) mw_3_13) hK.1 hP hD hS hA rfl (fun j hj => by rcases (show j = 0 ∨ j = 1 by omega) with rfl | rfl <;> rfl) (Nat.le_of_ble_eq_true rfl) (Nat.le_of_ble_eq_true rfl) dX5_init_5 (fun q_1 H hP hD hS => ?_)
  have hP := va_P.swap hP
  have hD := va_D.swap hD
  have hP : va_P G.1 vwCl ([(pn, .inr (5, [.null, .null, .null, .null, .null, .null, .null, .null, .int 0, .null, .null, .null, .int 0])), (q_1, .inr (8, [.null, .int 0]))] ++ va_pl L fp) H := hP
  have hD : va_D A ([(pn, .inr (5, [.null, .null, .null, .null, .null, .null, .null, .null, .int 0, .null, .null, .null, .int 0])), (q_1, .inr (8, [.null, .int 0]))] ++ va_pl L fp) := hD
  refine W.widen (k := 1) (n := 2) (by omega) (by omega) ?_
  refine lv_dup hx hb dX5_init_8 rfl ?_
  refine lv_iconst (v := 4) hx hb dX5_init_9 (by decide) ?_
  refine lv_bipush (v := 16) hx hb dX5_init_10 (by decide) ?_
  have hPc := va_P.part (X := [(pn, .inr (5, [.null, .null, .null, .null, .null, .null, .null, .null, .int 0, .null, .null, .null, .int 0])), (q_1, .inr (8, [.null, .int 0]))]) (cx := [(q_1, .inr (8, [.null, .int 0]))]) hP [1] rfl
  have hDc := va_D.part (X := [(pn, .inr (5, [.null, .null, .null, .null, .null, .null, .null, .null, .int 0, .null, .null, .null, .int 0])), (q_1, .inr (8, [.null, .int 0]))]) (cx := [(q_1, .inr (8, [.null, .int 0]))]) hD [1] (by decide) rfl
  have hFc := va_freeP (X := [(pn, .inr (5, [.null, .null, .null, .null, .null, .null, .null, .null, .int 0, .null, .null, .null, .int 0])), (q_1, .inr (8, [.null, .int 0]))]) (cx := [(q_1, .inr (8, [.null, .int 0]))]) hD hS hA [1] rfl
  refine va_callv (va_runI (As := [.int 4, .int 16]) (rest := [.ref q_1, .ref pn]) ⟨hx, hb, hml, hown, hts⟩ (k_tinit_4_16 l G _ q_1 L fp (by first | assumption | decide)) (cwI 2 hts (gd_T mw_4_0) rfl rfl rfl (ht (Cond.initialized RX8) mw_3_13) (ht (Cond.methodLink RX5 11 yX8_init) mw_6_7) (ht (Cond.instanceMethod yX8_init) mw_3_23) rfl yk_X8_init ⟨Nat.le_of_ble_eq_true rfl, Nat.le_of_ble_eq_true rfl⟩) (c0_pre hPc hK hDc) rfl rfl hl.1 rfl (lv_room (Nat.le_of_ble_eq_true rfl)) dX5_init_12 ⟨Nat.le_of_ble_eq_true rfl, Nat.le_of_ble_eq_true rfl⟩) hS (fun q _ h => hFc q h) hFc (fun u t H1 locs ht1 hvm hw hB hz1 hk1 hS => ?_)
  obtain ⟨to_2, tg_3, L2_4, fp2_5⟩ := u
  try dsimp only at hw hB
  obtain ⟨hq5_0, hq5_1, hq5_2⟩ := hw
  have hsub := fun (a9 : Nat) h => hq5_1 a9 (hsub a9 h)
  have hRo := hq5_0
  obtain ⟨hP1, hD1⟩ := hB
  rw [ht1] at hP1
  obtain ⟨hP, hD⟩ := va_joinP (X := [(pn, .inr (5, [.null, .null, .null, .null, .null, .null, .null, .null, .int 0, .null, .null, .null, .int 0])), (q_1, .inr (8, [.null, .int 0]))]) (cx := [(q_1, .inr (8, [.null, .int 0]))]) (wr := [(pn, .inr (5, [.null, .null, .null, .null, .null, .null, .null, .null, .int 0, .null, .null, .null, .int 0]))]) (rx := [(q_1, .inr (8, [.ref to_2, .int 0])), (to_2, .inl (G.2 5, 4, .inr (.inr (.inr (.inr tg_3)))))]) (pl1 := va_pl L2_4 fp2_5) hP hD [1] [0] rfl rfl (by decide) (by decide) hk1 hFc hP1 hD1
  generalize H1 = H at hP hS ⊢
  have hP : va_P G.1 vwCl ([(pn, .inr (5, [.null, .null, .null, .null, .null, .null, .null, .null, .int 0, .null, .null, .null, .int 0])), (q_1, .inr (8, [.ref to_2, .int 0])), (to_2, .inl (G.2 5, 4, .inr (.inr (.inr (.inr tg_3)))))] ++ va_pl L2_4 fp2_5) H := hP
  have hD : va_D A ([(pn, .inr (5, [.null, .null, .null, .null, .null, .null, .null, .null, .int 0, .null, .null, .null, .int 0])), (q_1, .inr (8, [.ref to_2, .int 0])), (to_2, .inl (G.2 5, 4, .inr (.inr (.inr (.inr tg_3)))))] ++ va_pl L2_4 fp2_5) := hD
  refine W.widen (k := 6) (n := 70) (by omega) (by omega) ?_
  refine va_putF (D := G.1) (ci := 5) (v := .ref q_1) (ty := tyX5 3) (C := RX5) (T := TX5) (N := 13) hx hb ht inlX5 tyX5 tyX5_ok nmX5 hown hK.1 hP hD hS 0 rfl rfl 3 (by decide) (ht (Cond.fieldLink RX5 14 "PloughDepot$Planner" "drives" "LPloughDepot$Table;") mw_5_18) (fun _ h9 => h9) rfl hin rfl (tyX5_ok 3 (by decide)) rfl rfl (Nat.le_of_ble_eq_true rfl) dX5_init_15 (fun H locs hP hD hS => ?_)
  have hP : va_P G.1 vwCl ([(pn, .inr (5, [.null, .null, .null, .ref q_1, .null, .null, .null, .null, .int 0, .null, .null, .null, .int 0])), (q_1, .inr (8, [.ref to_2, .int 0])), (to_2, .inl (G.2 5, 4, .inr (.inr (.inr (.inr tg_3)))))] ++ va_pl L2_4 fp2_5) H := hP
  have hD : va_D A ([(pn, .inr (5, [.null, .null, .null, .ref q_1, .null, .null, .null, .null, .int 0, .null, .null, .null, .int 0])), (q_1, .inr (8, [.ref to_2, .int 0])), (to_2, .inl (G.2 5, 4, .inr (.inr (.inr (.inr tg_3)))))] ++ va_pl L2_4 fp2_5) := hD
  refine lv_aload_n hx hb dX5_init_18 rfl (lv_at hl 0 rfl) ?_
  refine lv_bipush (v := 7) hx hb dX5_init_19 (by decide) ?_
  refine ns_new 0 (atype := .int) (ty := .int) (a0 := (7, .inl (fun _ => 0))) hx hb (ht (Cond.arrayClass .int) mw_2_13) rfl rfl (fun h => h) hK hP hD hS hA (fun _ => rfl) (by decide) (N' := 7) (by decide) (by decide) (Nat.le_of_ble_eq_true rfl) (Nat.le_of_ble_eq_true rfl) dX5_init_21 (fun q_6 H hP hD hS => ?_)
  have hP := va_P.swap hP
  have hD := va_D.swap hD
  have hP : va_P G.1 vwCl ([(pn, .inr (5, [.null, .null, .null, .ref q_1, .null, .null, .null, .null, .int 0, .null, .null, .null, .int 0])), (q_1, .inr (8, [.ref to_2, .int 0])), (to_2, .inl (G.2 5, 4, .inr (.inr (.inr (.inr tg_3))))), (q_6, .inl (G.2 0, 7, .inl (fun _ => 0)))] ++ va_pl L2_4 fp2_5) H := hP
  have hD : va_D A ([(pn, .inr (5, [.null, .null, .null, .ref q_1, .null, .null, .null, .null, .int 0, .null, .null, .null, .int 0])), (q_1, .inr (8, [.ref to_2, .int 0])), (to_2, .inl (G.2 5, 4, .inr (.inr (.inr (.inr tg_3))))), (q_6, .inl (G.2 0, 7, .inl (fun _ => 0)))] ++ va_pl L2_4 fp2_5) := hD
  refine W.widen (k := 7) (n := 77) (by omega) (by omega) ?_
  refine va_putF (D := G.1) (ci := 5) (v := .ref q_6) (ty := tyX5 4) (C := RX5) (T := TX5) (N := 13) hx hb ht inlX5 tyX5 tyX5_ok nmX5 hown hK.1 hP hD hS 0 rfl rfl 4 (by decide) (ht (Cond.fieldLink RX5 20 "PloughDepot$Planner" "facts" "[I") mw_5_19) (fun _ h9 => h9) rfl hin rfl (tyX5_ok 4 (by decide)) rfl rfl (Nat.le_of_ble_eq_true rfl) dX5_init_23 (fun H locs hP hD hS => ?_)
  have hP : va_P G.1 vwCl ([(pn, .inr (5, [.null, .null, .null, .ref q_1, .ref q_6, .null, .null, .null, .int 0, .null, .null, .null, .int 0])), (q_1, .inr (8, [.ref to_2, .int 0])), (to_2, .inl (G.2 5, 4, .inr (.inr (.inr (.inr tg_3))))), (q_6, .inl (G.2 0, 7, .inl (fun _ => 0)))] ++ va_pl L2_4 fp2_5) H := hP
  have hD : va_D A ([(pn, .inr (5, [.null, .null, .null, .ref q_1, .ref q_6, .null, .null, .null, .int 0, .null, .null, .null, .int 0])), (q_1, .inr (8, [.ref to_2, .int 0])), (to_2, .inl (G.2 5, 4, .inr (.inr (.inr (.inr tg_3))))), (q_6, .inl (G.2 0, 7, .inl (fun _ => 0)))] ++ va_pl L2_4 fp2_5) := hD
  refine lv_aload_n hx hb dX5_init_26 rfl (lv_at hl 0 rfl) ?_
  refine lv_bipush (v := 60) hx hb dX5_init_27 (by decide) ?_
  refine ns_new 0 (atype := .int) (ty := .int) (a0 := (60, .inl (fun _ => 0))) hx hb (ht (Cond.arrayClass .int) mw_2_13) rfl rfl (fun h => h) hK hP hD hS hA (fun _ => rfl) (by decide) (N' := 60) (by decide) (by decide) (Nat.le_of_ble_eq_true rfl) (Nat.le_of_ble_eq_true rfl) dX5_init_29 (fun q_7 H hP hD hS => ?_)
  have hP := va_P.swap hP
  have hD := va_D.swap hD
  have hP : va_P G.1 vwCl ([(pn, .inr (5, [.null, .null, .null, .ref q_1, .ref q_6, .null, .null, .null, .int 0, .null, .null, .null, .int 0])), (q_1, .inr (8, [.ref to_2, .int 0])), (to_2, .inl (G.2 5, 4, .inr (.inr (.inr (.inr tg_3))))), (q_6, .inl (G.2 0, 7, .inl (fun _ => 0))), (q_7, .inl (G.2 0, 60, .inl (fun _ => 0)))] ++ va_pl L2_4 fp2_5) H := hP
  have hD : va_D A ([(pn, .inr (5, [.null, .null, .null, .ref q_1, .ref q_6, .null, .null, .null, .int 0, .null, .null, .null, .int 0])), (q_1, .inr (8, [.ref to_2, .int 0])), (to_2, .inl (G.2 5, 4, .inr (.inr (.inr (.inr tg_3))))), (q_6, .inl (G.2 0, 7, .inl (fun _ => 0))), (q_7, .inl (G.2 0, 60, .inl (fun _ => 0)))] ++ va_pl L2_4 fp2_5) := hD
  refine W.widen (k := 8) (n := 137) (by omega) (by omega) ?_
  refine va_putF (D := G.1) (ci := 5) (v := .ref q_7) (ty := tyX5 5) (C := RX5) (T := TX5) (N := 13) hx hb ht inlX5 tyX5 tyX5_ok nmX5 hown hK.1 hP hD hS 0 rfl rfl 5 (by decide) (ht (Cond.fieldLink RX5 24 "PloughDepot$Planner" "partners" "[I") mw_5_20) (fun _ h9 => h9) rfl hin rfl (tyX5_ok 5 (by decide)) rfl rfl (Nat.le_of_ble_eq_true rfl) dX5_init_31 (fun H locs hP hD hS => ?_)
  have hP : va_P G.1 vwCl ([(pn, .inr (5, [.null, .null, .null, .ref q_1, .ref q_6, .ref q_7, .null, .null, .int 0, .null, .null, .null, .int 0])), (q_1, .inr (8, [.ref to_2, .int 0])), (to_2, .inl (G.2 5, 4, .inr (.inr (.inr (.inr tg_3))))), (q_6, .inl (G.2 0, 7, .inl (fun _ => 0))), (q_7, .inl (G.2 0, 60, .inl (fun _ => 0)))] ++ va_pl L2_4 fp2_5) H := hP
  have hD : va_D A ([(pn, .inr (5, [.null, .null, .null, .ref q_1, .ref q_6, .ref q_7, .null, .null, .int 0, .null, .null, .null, .int 0])), (q_1, .inr (8, [.ref to_2, .int 0])), (to_2, .inl (G.2 5, 4, .inr (.inr (.inr (.inr tg_3))))), (q_6, .inl (G.2 0, 7, .inl (fun _ => 0))), (q_7, .inl (G.2 0, 60, .inl (fun _ => 0)))] ++ va_pl L2_4 fp2_5) := hD
  refine lv_aload_n hx hb dX5_init_34 rfl (lv_at hl 0 rfl) ?_
  refine lv_sipush (v := 150) hx hb dX5_init_35 (by decide) ?_
  refine ns_new 0 (atype := .int) (ty := .int) (a0 := (150, .inl (fun _ => 0))) hx hb (ht (Cond.arrayClass .int) mw_2_13) rfl rfl (fun h => h) hK hP hD hS hA (fun _ => rfl) (by decide) (N' := 150) (by decide) (by decide) (Nat.le_of_ble_eq_true rfl) (Nat.le_of_ble_eq_true rfl) dX5_init_38 (fun q_8 H hP hD hS => ?_)
  have hP := va_P.swap hP
  have hD := va_D.swap hD
  have hP : va_P G.1 vwCl ([(pn, .inr (5, [.null, .null, .null, .ref q_1, .ref q_6, .ref q_7, .null, .null, .int 0, .null, .null, .null, .int 0])), (q_1, .inr (8, [.ref to_2, .int 0])), (to_2, .inl (G.2 5, 4, .inr (.inr (.inr (.inr tg_3))))), (q_6, .inl (G.2 0, 7, .inl (fun _ => 0))), (q_7, .inl (G.2 0, 60, .inl (fun _ => 0))), (q_8, .inl (G.2 0, 150, .inl (fun _ => 0)))] ++ va_pl L2_4 fp2_5) H := hP
  have hD : va_D A ([(pn, .inr (5, [.null, .null, .null, .ref q_1, .ref q_6, .ref q_7, .null, .null, .int 0, .null, .null, .null, .int 0])), (q_1, .inr (8, [.ref to_2, .int 0])), (to_2, .inl (G.2 5, 4, .inr (.inr (.inr (.inr tg_3))))), (q_6, .inl (G.2 0, 7, .inl (fun _ => 0))), (q_7, .inl (G.2 0, 60, .inl (fun _ => 0))), (q_8, .inl (G.2 0, 150, .inl (fun _ => 0)))] ++ va_pl L2_4 fp2_5) := hD
  refine W.widen (k := 9) (n := 287) (by omega) (by omega) ?_
  refine va_putF (D := G.1) (ci := 5) (v := .ref q_8) (ty := tyX5 6) (C := RX5) (T := TX5) (N := 13) hx hb ht inlX5 tyX5 tyX5_ok nmX5 hown hK.1 hP hD hS 0 rfl rfl 6 (by decide) (ht (Cond.fieldLink RX5 27 "PloughDepot$Planner" "endA" "[I") mw_5_21) (fun _ h9 => h9) rfl hin rfl (tyX5_ok 6 (by decide)) rfl rfl (Nat.le_of_ble_eq_true rfl) dX5_init_40 (fun H locs hP hD hS => ?_)
  have hP : va_P G.1 vwCl ([(pn, .inr (5, [.null, .null, .null, .ref q_1, .ref q_6, .ref q_7, .ref q_8, .null, .int 0, .null, .null, .null, .int 0])), (q_1, .inr (8, [.ref to_2, .int 0])), (to_2, .inl (G.2 5, 4, .inr (.inr (.inr (.inr tg_3))))), (q_6, .inl (G.2 0, 7, .inl (fun _ => 0))), (q_7, .inl (G.2 0, 60, .inl (fun _ => 0))), (q_8, .inl (G.2 0, 150, .inl (fun _ => 0)))] ++ va_pl L2_4 fp2_5) H := hP
  have hD : va_D A ([(pn, .inr (5, [.null, .null, .null, .ref q_1, .ref q_6, .ref q_7, .ref q_8, .null, .int 0, .null, .null, .null, .int 0])), (q_1, .inr (8, [.ref to_2, .int 0])), (to_2, .inl (G.2 5, 4, .inr (.inr (.inr (.inr tg_3))))), (q_6, .inl (G.2 0, 7, .inl (fun _ => 0))), (q_7, .inl (G.2 0, 60, .inl (fun _ => 0))), (q_8, .inl (G.2 0, 150, .inl (fun _ => 0)))] ++ va_pl L2_4 fp2_5) := hD
  refine lv_aload_n hx hb dX5_init_43 rfl (lv_at hl 0 rfl) ?_
  refine lv_sipush (v := 150) hx hb dX5_init_44 (by decide) ?_
  refine ns_new 0 (atype := .int) (ty := .int) (a0 := (150, .inl (fun _ => 0))) hx hb (ht (Cond.arrayClass .int) mw_2_13) rfl rfl (fun h => h) hK hP hD hS hA (fun _ => rfl) (by decide) (N' := 150) (by decide) (by decide) (Nat.le_of_ble_eq_true rfl) (Nat.le_of_ble_eq_true rfl) dX5_init_47 (fun q_9 H hP hD hS => ?_)
  have hP := va_P.swap hP
  have hD := va_D.swap hD
  have hP : va_P G.1 vwCl ([(pn, .inr (5, [.null, .null, .null, .ref q_1, .ref q_6, .ref q_7, .ref q_8, .null, .int 0, .null, .null, .null, .int 0])), (q_1, .inr (8, [.ref to_2, .int 0])), (to_2, .inl (G.2 5, 4, .inr (.inr (.inr (.inr tg_3))))), (q_6, .inl (G.2 0, 7, .inl (fun _ => 0))), (q_7, .inl (G.2 0, 60, .inl (fun _ => 0))), (q_8, .inl (G.2 0, 150, .inl (fun _ => 0))), (q_9, .inl (G.2 0, 150, .inl (fun _ => 0)))] ++ va_pl L2_4 fp2_5) H := hP
  have hD : va_D A ([(pn, .inr (5, [.null, .null, .null, .ref q_1, .ref q_6, .ref q_7, .ref q_8, .null, .int 0, .null, .null, .null, .int 0])), (q_1, .inr (8, [.ref to_2, .int 0])), (to_2, .inl (G.2 5, 4, .inr (.inr (.inr (.inr tg_3))))), (q_6, .inl (G.2 0, 7, .inl (fun _ => 0))), (q_7, .inl (G.2 0, 60, .inl (fun _ => 0))), (q_8, .inl (G.2 0, 150, .inl (fun _ => 0))), (q_9, .inl (G.2 0, 150, .inl (fun _ => 0)))] ++ va_pl L2_4 fp2_5) := hD
  refine W.widen (k := 10) (n := 437) (by omega) (by omega) ?_
  refine va_putF (D := G.1) (ci := 5) (v := .ref q_9) (ty := tyX5 7) (C := RX5) (T := TX5) (N := 13) hx hb ht inlX5 tyX5 tyX5_ok nmX5 hown hK.1 hP hD hS 0 rfl rfl 7 (by decide) (ht (Cond.fieldLink RX5 30 "PloughDepot$Planner" "endB" "[I") mw_5_22) (fun _ h9 => h9) rfl hin rfl (tyX5_ok 7 (by decide)) rfl rfl (Nat.le_of_ble_eq_true rfl) dX5_init_49 (fun H locs hP hD hS => ?_)
  have hP : va_P G.1 vwCl ([(pn, .inr (5, [.null, .null, .null, .ref q_1, .ref q_6, .ref q_7, .ref q_8, .ref q_9, .int 0, .null, .null, .null, .int 0])), (q_1, .inr (8, [.ref to_2, .int 0])), (to_2, .inl (G.2 5, 4, .inr (.inr (.inr (.inr tg_3))))), (q_6, .inl (G.2 0, 7, .inl (fun _ => 0))), (q_7, .inl (G.2 0, 60, .inl (fun _ => 0))), (q_8, .inl (G.2 0, 150, .inl (fun _ => 0))), (q_9, .inl (G.2 0, 150, .inl (fun _ => 0)))] ++ va_pl L2_4 fp2_5) H := hP
  have hD : va_D A ([(pn, .inr (5, [.null, .null, .null, .ref q_1, .ref q_6, .ref q_7, .ref q_8, .ref q_9, .int 0, .null, .null, .null, .int 0])), (q_1, .inr (8, [.ref to_2, .int 0])), (to_2, .inl (G.2 5, 4, .inr (.inr (.inr (.inr tg_3))))), (q_6, .inl (G.2 0, 7, .inl (fun _ => 0))), (q_7, .inl (G.2 0, 60, .inl (fun _ => 0))), (q_8, .inl (G.2 0, 150, .inl (fun _ => 0))), (q_9, .inl (G.2 0, 150, .inl (fun _ => 0)))] ++ va_pl L2_4 fp2_5) := hD
  refine lv_aload_n hx hb dX5_init_52 rfl (lv_at hl 0 rfl) ?_
  refine lv_iconst (v := 0) hx hb dX5_init_53 (by decide) ?_
  refine va_put (D := G.1) (ci := 5) (v := .int 0) (ty := tyX5 8) (C := RX5) (T := TX5) (N := 13) hx hb ht inlX5 tyX5 tyX5_ok nmX5 hown hK.1 hP hD hS 0 rfl rfl 8 (by decide) (ht (Cond.fieldLink RX5 33 "PloughDepot$Planner" "streets" "I") mw_5_23) (fun _ h9 => h9) rfl (tyX5_ok 8 (by decide)) rfl rfl (Nat.le_of_ble_eq_true rfl) dX5_init_54 (fun H locs hP hD hS => ?_)
  have hP : va_P G.1 vwCl ([(pn, .inr (5, [.null, .null, .null, .ref q_1, .ref q_6, .ref q_7, .ref q_8, .ref q_9, .int 0, .null, .null, .null, .int 0])), (q_1, .inr (8, [.ref to_2, .int 0])), (to_2, .inl (G.2 5, 4, .inr (.inr (.inr (.inr tg_3))))), (q_6, .inl (G.2 0, 7, .inl (fun _ => 0))), (q_7, .inl (G.2 0, 60, .inl (fun _ => 0))), (q_8, .inl (G.2 0, 150, .inl (fun _ => 0))), (q_9, .inl (G.2 0, 150, .inl (fun _ => 0)))] ++ va_pl L2_4 fp2_5) H := hP
  have hD : va_D A ([(pn, .inr (5, [.null, .null, .null, .ref q_1, .ref q_6, .ref q_7, .ref q_8, .ref q_9, .int 0, .null, .null, .null, .int 0])), (q_1, .inr (8, [.ref to_2, .int 0])), (to_2, .inl (G.2 5, 4, .inr (.inr (.inr (.inr tg_3))))), (q_6, .inl (G.2 0, 7, .inl (fun _ => 0))), (q_7, .inl (G.2 0, 60, .inl (fun _ => 0))), (q_8, .inl (G.2 0, 150, .inl (fun _ => 0))), (q_9, .inl (G.2 0, 150, .inl (fun _ => 0)))] ++ va_pl L2_4 fp2_5) := hD
  refine lv_aload_n hx hb dX5_init_57 rfl (lv_at hl 0 rfl) ?_
  refine lv_sipush (v := 150) hx hb dX5_init_58 (by decide) ?_
  refine ns_new 0 (atype := .int) (ty := .int) (a0 := (150, .inl (fun _ => 0))) hx hb (ht (Cond.arrayClass .int) mw_2_13) rfl rfl (fun h => h) hK hP hD hS hA (fun _ => rfl) (by decide) (N' := 150) (by decide) (by decide) (Nat.le_of_ble_eq_true rfl) (Nat.le_of_ble_eq_true rfl) dX5_init_61 (fun q_10 H hP hD hS => ?_)
  have hP := va_P.swap hP
  have hD := va_D.swap hD
  have hP : va_P G.1 vwCl ([(pn, .inr (5, [.null, .null, .null, .ref q_1, .ref q_6, .ref q_7, .ref q_8, .ref q_9, .int 0, .null, .null, .null, .int 0])), (q_1, .inr (8, [.ref to_2, .int 0])), (to_2, .inl (G.2 5, 4, .inr (.inr (.inr (.inr tg_3))))), (q_6, .inl (G.2 0, 7, .inl (fun _ => 0))), (q_7, .inl (G.2 0, 60, .inl (fun _ => 0))), (q_8, .inl (G.2 0, 150, .inl (fun _ => 0))), (q_9, .inl (G.2 0, 150, .inl (fun _ => 0))), (q_10, .inl (G.2 0, 150, .inl (fun _ => 0)))] ++ va_pl L2_4 fp2_5) H := hP
  have hD : va_D A ([(pn, .inr (5, [.null, .null, .null, .ref q_1, .ref q_6, .ref q_7, .ref q_8, .ref q_9, .int 0, .null, .null, .null, .int 0])), (q_1, .inr (8, [.ref to_2, .int 0])), (to_2, .inl (G.2 5, 4, .inr (.inr (.inr (.inr tg_3))))), (q_6, .inl (G.2 0, 7, .inl (fun _ => 0))), (q_7, .inl (G.2 0, 60, .inl (fun _ => 0))), (q_8, .inl (G.2 0, 150, .inl (fun _ => 0))), (q_9, .inl (G.2 0, 150, .inl (fun _ => 0))), (q_10, .inl (G.2 0, 150, .inl (fun _ => 0)))] ++ va_pl L2_4 fp2_5) := hD
  refine W.widen (k := 11) (n := 587) (by omega) (by omega) ?_
  refine va_putF (D := G.1) (ci := 5) (v := .ref q_10) (ty := tyX5 9) (C := RX5) (T := TX5) (N := 13) hx hb ht inlX5 tyX5 tyX5_ok nmX5 hown hK.1 hP hD hS 0 rfl rfl 9 (by decide) (ht (Cond.fieldLink RX5 37 "PloughDepot$Planner" "left" "[I") mw_6_0) (fun _ h9 => h9) rfl hin rfl (tyX5_ok 9 (by decide)) rfl rfl (Nat.le_of_ble_eq_true rfl) dX5_init_63 (fun H locs hP hD hS => ?_)
  have hP : va_P G.1 vwCl ([(pn, .inr (5, [.null, .null, .null, .ref q_1, .ref q_6, .ref q_7, .ref q_8, .ref q_9, .int 0, .ref q_10, .null, .null, .int 0])), (q_1, .inr (8, [.ref to_2, .int 0])), (to_2, .inl (G.2 5, 4, .inr (.inr (.inr (.inr tg_3))))), (q_6, .inl (G.2 0, 7, .inl (fun _ => 0))), (q_7, .inl (G.2 0, 60, .inl (fun _ => 0))), (q_8, .inl (G.2 0, 150, .inl (fun _ => 0))), (q_9, .inl (G.2 0, 150, .inl (fun _ => 0))), (q_10, .inl (G.2 0, 150, .inl (fun _ => 0)))] ++ va_pl L2_4 fp2_5) H := hP
  have hD : va_D A ([(pn, .inr (5, [.null, .null, .null, .ref q_1, .ref q_6, .ref q_7, .ref q_8, .ref q_9, .int 0, .ref q_10, .null, .null, .int 0])), (q_1, .inr (8, [.ref to_2, .int 0])), (to_2, .inl (G.2 5, 4, .inr (.inr (.inr (.inr tg_3))))), (q_6, .inl (G.2 0, 7, .inl (fun _ => 0))), (q_7, .inl (G.2 0, 60, .inl (fun _ => 0))), (q_8, .inl (G.2 0, 150, .inl (fun _ => 0))), (q_9, .inl (G.2 0, 150, .inl (fun _ => 0))), (q_10, .inl (G.2 0, 150, .inl (fun _ => 0)))] ++ va_pl L2_4 fp2_5) := hD
  refine lv_aload_n hx hb dX5_init_66 rfl (lv_at hl 0 rfl) ?_
  refine lv_sipush (v := 150) hx hb dX5_init_67 (by decide) ?_
  refine ns_new 0 (atype := .int) (ty := .int) (a0 := (150, .inl (fun _ => 0))) hx hb (ht (Cond.arrayClass .int) mw_2_13) rfl rfl (fun h => h) hK hP hD hS hA (fun _ => rfl) (by decide) (N' := 150) (by decide) (by decide) (Nat.le_of_ble_eq_true rfl) (Nat.le_of_ble_eq_true rfl) dX5_init_70 (fun q_11 H hP hD hS => ?_)
  have hP := va_P.swap hP
  have hD := va_D.swap hD
  have hP : va_P G.1 vwCl ([(pn, .inr (5, [.null, .null, .null, .ref q_1, .ref q_6, .ref q_7, .ref q_8, .ref q_9, .int 0, .ref q_10, .null, .null, .int 0])), (q_1, .inr (8, [.ref to_2, .int 0])), (to_2, .inl (G.2 5, 4, .inr (.inr (.inr (.inr tg_3))))), (q_6, .inl (G.2 0, 7, .inl (fun _ => 0))), (q_7, .inl (G.2 0, 60, .inl (fun _ => 0))), (q_8, .inl (G.2 0, 150, .inl (fun _ => 0))), (q_9, .inl (G.2 0, 150, .inl (fun _ => 0))), (q_10, .inl (G.2 0, 150, .inl (fun _ => 0))), (q_11, .inl (G.2 0, 150, .inl (fun _ => 0)))] ++ va_pl L2_4 fp2_5) H := hP
  have hD : va_D A ([(pn, .inr (5, [.null, .null, .null, .ref q_1, .ref q_6, .ref q_7, .ref q_8, .ref q_9, .int 0, .ref q_10, .null, .null, .int 0])), (q_1, .inr (8, [.ref to_2, .int 0])), (to_2, .inl (G.2 5, 4, .inr (.inr (.inr (.inr tg_3))))), (q_6, .inl (G.2 0, 7, .inl (fun _ => 0))), (q_7, .inl (G.2 0, 60, .inl (fun _ => 0))), (q_8, .inl (G.2 0, 150, .inl (fun _ => 0))), (q_9, .inl (G.2 0, 150, .inl (fun _ => 0))), (q_10, .inl (G.2 0, 150, .inl (fun _ => 0))), (q_11, .inl (G.2 0, 150, .inl (fun _ => 0)))] ++ va_pl L2_4 fp2_5) := hD
  refine W.widen (k := 12) (n := 737) (by omega) (by omega) ?_
  refine va_putF (D := G.1) (ci := 5) (v := .ref q_11) (ty := tyX5 10) (C := RX5) (T := TX5) (N := 13) hx hb ht inlX5 tyX5 tyX5_ok nmX5 hown hK.1 hP hD hS 0 rfl rfl 10 (by decide) (ht (Cond.fieldLink RX5 40 "PloughDepot$Planner" "due" "[I") mw_6_1) (fun _ h9 => h9) rfl hin rfl (tyX5_ok 10 (by decide)) rfl rfl (Nat.le_of_ble_eq_true rfl) dX5_init_72 (fun H locs hP hD hS => ?_)
  have hP : va_P G.1 vwCl ([(pn, .inr (5, [.null, .null, .null, .ref q_1, .ref q_6, .ref q_7, .ref q_8, .ref q_9, .int 0, .ref q_10, .ref q_11, .null, .int 0])), (q_1, .inr (8, [.ref to_2, .int 0])), (to_2, .inl (G.2 5, 4, .inr (.inr (.inr (.inr tg_3))))), (q_6, .inl (G.2 0, 7, .inl (fun _ => 0))), (q_7, .inl (G.2 0, 60, .inl (fun _ => 0))), (q_8, .inl (G.2 0, 150, .inl (fun _ => 0))), (q_9, .inl (G.2 0, 150, .inl (fun _ => 0))), (q_10, .inl (G.2 0, 150, .inl (fun _ => 0))), (q_11, .inl (G.2 0, 150, .inl (fun _ => 0)))] ++ va_pl L2_4 fp2_5) H := hP
  have hD : va_D A ([(pn, .inr (5, [.null, .null, .null, .ref q_1, .ref q_6, .ref q_7, .ref q_8, .ref q_9, .int 0, .ref q_10, .ref q_11, .null, .int 0])), (q_1, .inr (8, [.ref to_2, .int 0])), (to_2, .inl (G.2 5, 4, .inr (.inr (.inr (.inr tg_3))))), (q_6, .inl (G.2 0, 7, .inl (fun _ => 0))), (q_7, .inl (G.2 0, 60, .inl (fun _ => 0))), (q_8, .inl (G.2 0, 150, .inl (fun _ => 0))), (q_9, .inl (G.2 0, 150, .inl (fun _ => 0))), (q_10, .inl (G.2 0, 150, .inl (fun _ => 0))), (q_11, .inl (G.2 0, 150, .inl (fun _ => 0)))] ++ va_pl L2_4 fp2_5) := hD
  refine lv_aload_n hx hb dX5_init_75 rfl (lv_at hl 0 rfl) ?_
  refine lv_bipush (v := 60) hx hb dX5_init_76 (by decide) ?_
  refine ns_new 1 (atype := .long) (ty := .long) (a0 := (60, .inr (.inl (fun _ => 0)))) hx hb (ht (Cond.arrayClass .long) mw_3_20) rfl rfl (fun h => h) hK hP hD hS hA (fun _ => rfl) (by decide) (N' := 60) (by decide) (by decide) (Nat.le_of_ble_eq_true rfl) (Nat.le_of_ble_eq_true rfl) dX5_init_78 (fun q_12 H hP hD hS => ?_)
  have hP := va_P.swap hP
  have hD := va_D.swap hD
  have hP : va_P G.1 vwCl ([(pn, .inr (5, [.null, .null, .null, .ref q_1, .ref q_6, .ref q_7, .ref q_8, .ref q_9, .int 0, .ref q_10, .ref q_11, .null, .int 0])), (q_1, .inr (8, [.ref to_2, .int 0])), (to_2, .inl (G.2 5, 4, .inr (.inr (.inr (.inr tg_3))))), (q_6, .inl (G.2 0, 7, .inl (fun _ => 0))), (q_7, .inl (G.2 0, 60, .inl (fun _ => 0))), (q_8, .inl (G.2 0, 150, .inl (fun _ => 0))), (q_9, .inl (G.2 0, 150, .inl (fun _ => 0))), (q_10, .inl (G.2 0, 150, .inl (fun _ => 0))), (q_11, .inl (G.2 0, 150, .inl (fun _ => 0))), (q_12, .inl (G.2 1, 60, .inr (.inl (fun _ => 0))))] ++ va_pl L2_4 fp2_5) H := hP
  have hD : va_D A ([(pn, .inr (5, [.null, .null, .null, .ref q_1, .ref q_6, .ref q_7, .ref q_8, .ref q_9, .int 0, .ref q_10, .ref q_11, .null, .int 0])), (q_1, .inr (8, [.ref to_2, .int 0])), (to_2, .inl (G.2 5, 4, .inr (.inr (.inr (.inr tg_3))))), (q_6, .inl (G.2 0, 7, .inl (fun _ => 0))), (q_7, .inl (G.2 0, 60, .inl (fun _ => 0))), (q_8, .inl (G.2 0, 150, .inl (fun _ => 0))), (q_9, .inl (G.2 0, 150, .inl (fun _ => 0))), (q_10, .inl (G.2 0, 150, .inl (fun _ => 0))), (q_11, .inl (G.2 0, 150, .inl (fun _ => 0))), (q_12, .inl (G.2 1, 60, .inr (.inl (fun _ => 0))))] ++ va_pl L2_4 fp2_5) := hD
  refine W.widen (k := 13) (n := 797) (by omega) (by omega) ?_
  refine va_putF (D := G.1) (ci := 5) (v := .ref q_12) (ty := tyX5 11) (C := RX5) (T := TX5) (N := 13) hx hb ht inlX5 tyX5 tyX5_ok nmX5 hown hK.1 hP hD hS 0 rfl rfl 11 (by decide) (ht (Cond.fieldLink RX5 43 "PloughDepot$Planner" "near" "[J") mw_6_2) (fun _ h9 => h9) rfl hin rfl (tyX5_ok 11 (by decide)) rfl rfl (Nat.le_of_ble_eq_true rfl) dX5_init_80 (fun H locs hP hD hS => ?_)
  have hP : va_P G.1 vwCl ([(pn, .inr (5, [.null, .null, .null, .ref q_1, .ref q_6, .ref q_7, .ref q_8, .ref q_9, .int 0, .ref q_10, .ref q_11, .ref q_12, .int 0])), (q_1, .inr (8, [.ref to_2, .int 0])), (to_2, .inl (G.2 5, 4, .inr (.inr (.inr (.inr tg_3))))), (q_6, .inl (G.2 0, 7, .inl (fun _ => 0))), (q_7, .inl (G.2 0, 60, .inl (fun _ => 0))), (q_8, .inl (G.2 0, 150, .inl (fun _ => 0))), (q_9, .inl (G.2 0, 150, .inl (fun _ => 0))), (q_10, .inl (G.2 0, 150, .inl (fun _ => 0))), (q_11, .inl (G.2 0, 150, .inl (fun _ => 0))), (q_12, .inl (G.2 1, 60, .inr (.inl (fun _ => 0))))] ++ va_pl L2_4 fp2_5) H := hP
  have hD : va_D A ([(pn, .inr (5, [.null, .null, .null, .ref q_1, .ref q_6, .ref q_7, .ref q_8, .ref q_9, .int 0, .ref q_10, .ref q_11, .ref q_12, .int 0])), (q_1, .inr (8, [.ref to_2, .int 0])), (to_2, .inl (G.2 5, 4, .inr (.inr (.inr (.inr tg_3))))), (q_6, .inl (G.2 0, 7, .inl (fun _ => 0))), (q_7, .inl (G.2 0, 60, .inl (fun _ => 0))), (q_8, .inl (G.2 0, 150, .inl (fun _ => 0))), (q_9, .inl (G.2 0, 150, .inl (fun _ => 0))), (q_10, .inl (G.2 0, 150, .inl (fun _ => 0))), (q_11, .inl (G.2 0, 150, .inl (fun _ => 0))), (q_12, .inl (G.2 1, 60, .inr (.inl (fun _ => 0))))] ++ va_pl L2_4 fp2_5) := hD
  refine lv_aload_n hx hb dX5_init_83 rfl (lv_at hl 0 rfl) ?_
  refine lv_iconst (v := 0) hx hb dX5_init_84 (by decide) ?_
  refine va_put (D := G.1) (ci := 5) (v := .int 0) (ty := tyX5 12) (C := RX5) (T := TX5) (N := 13) hx hb ht inlX5 tyX5 tyX5_ok nmX5 hown hK.1 hP hD hS 0 rfl rfl 12 (by decide) (ht (Cond.fieldLink RX5 47 "PloughDepot$Planner" "place" "I") mw_6_3) (fun _ h9 => h9) rfl (tyX5_ok 12 (by decide)) rfl rfl (Nat.le_of_ble_eq_true rfl) dX5_init_85 (fun H locs hP hD hS => ?_)
  have hP : va_P G.1 vwCl ([(pn, .inr (5, [.null, .null, .null, .ref q_1, .ref q_6, .ref q_7, .ref q_8, .ref q_9, .int 0, .ref q_10, .ref q_11, .ref q_12, .int 0])), (q_1, .inr (8, [.ref to_2, .int 0])), (to_2, .inl (G.2 5, 4, .inr (.inr (.inr (.inr tg_3))))), (q_6, .inl (G.2 0, 7, .inl (fun _ => 0))), (q_7, .inl (G.2 0, 60, .inl (fun _ => 0))), (q_8, .inl (G.2 0, 150, .inl (fun _ => 0))), (q_9, .inl (G.2 0, 150, .inl (fun _ => 0))), (q_10, .inl (G.2 0, 150, .inl (fun _ => 0))), (q_11, .inl (G.2 0, 150, .inl (fun _ => 0))), (q_12, .inl (G.2 1, 60, .inr (.inl (fun _ => 0))))] ++ va_pl L2_4 fp2_5) H := hP
  have hD : va_D A ([(pn, .inr (5, [.null, .null, .null, .ref q_1, .ref q_6, .ref q_7, .ref q_8, .ref q_9, .int 0, .ref q_10, .ref q_11, .ref q_12, .int 0])), (q_1, .inr (8, [.ref to_2, .int 0])), (to_2, .inl (G.2 5, 4, .inr (.inr (.inr (.inr tg_3))))), (q_6, .inl (G.2 0, 7, .inl (fun _ => 0))), (q_7, .inl (G.2 0, 60, .inl (fun _ => 0))), (q_8, .inl (G.2 0, 150, .inl (fun _ => 0))), (q_9, .inl (G.2 0, 150, .inl (fun _ => 0))), (q_10, .inl (G.2 0, 150, .inl (fun _ => 0))), (q_11, .inl (G.2 0, 150, .inl (fun _ => 0))), (q_12, .inl (G.2 1, 60, .inr (.inl (fun _ => 0))))] ++ va_pl L2_4 fp2_5) := hD
  refine lv_aload_n hx hb dX5_init_88 rfl (lv_at hl 0 rfl) ?_
  refine lv_aload_n hx hb dX5_init_89 rfl (lv_at hl 1 rfl) ?_
  refine va_putF (D := G.1) (ci := 5) (v := .ref nw) (ty := tyX5 0) (C := RX5) (T := TX5) (N := 13) hx hb ht inlX5 tyX5 tyX5_ok nmX5 hown hK.1 hP hD hS 0 rfl rfl 0 (by decide) (ht (Cond.fieldLink RX5 50 "PloughDepot$Planner" "books" "LPloughDepot$Books;") mw_6_4) (fun _ h9 => h9) rfl hin rfl (tyX5_ok 0 (by decide)) rfl rfl (Nat.le_of_ble_eq_true rfl) dX5_init_90 (fun H locs hP hD hS => ?_)
  have hP : va_P G.1 vwCl ([(pn, .inr (5, [.ref nw, .null, .null, .ref q_1, .ref q_6, .ref q_7, .ref q_8, .ref q_9, .int 0, .ref q_10, .ref q_11, .ref q_12, .int 0])), (q_1, .inr (8, [.ref to_2, .int 0])), (to_2, .inl (G.2 5, 4, .inr (.inr (.inr (.inr tg_3))))), (q_6, .inl (G.2 0, 7, .inl (fun _ => 0))), (q_7, .inl (G.2 0, 60, .inl (fun _ => 0))), (q_8, .inl (G.2 0, 150, .inl (fun _ => 0))), (q_9, .inl (G.2 0, 150, .inl (fun _ => 0))), (q_10, .inl (G.2 0, 150, .inl (fun _ => 0))), (q_11, .inl (G.2 0, 150, .inl (fun _ => 0))), (q_12, .inl (G.2 1, 60, .inr (.inl (fun _ => 0))))] ++ va_pl L2_4 fp2_5) H := hP
  have hD : va_D A ([(pn, .inr (5, [.ref nw, .null, .null, .ref q_1, .ref q_6, .ref q_7, .ref q_8, .ref q_9, .int 0, .ref q_10, .ref q_11, .ref q_12, .int 0])), (q_1, .inr (8, [.ref to_2, .int 0])), (to_2, .inl (G.2 5, 4, .inr (.inr (.inr (.inr tg_3))))), (q_6, .inl (G.2 0, 7, .inl (fun _ => 0))), (q_7, .inl (G.2 0, 60, .inl (fun _ => 0))), (q_8, .inl (G.2 0, 150, .inl (fun _ => 0))), (q_9, .inl (G.2 0, 150, .inl (fun _ => 0))), (q_10, .inl (G.2 0, 150, .inl (fun _ => 0))), (q_11, .inl (G.2 0, 150, .inl (fun _ => 0))), (q_12, .inl (G.2 1, 60, .inr (.inl (fun _ => 0))))] ++ va_pl L2_4 fp2_5) := hD
  refine lv_aload_n hx hb dX5_init_93 rfl (lv_at hl 0 rfl) ?_
  refine lv_aload_n hx hb dX5_init_94 rfl (lv_at hl 2 rfl) ?_
  refine va_putF (D := G.1) (ci := 5) (v := .ref wy) (ty := tyX5 1) (C := RX5) (T := TX5) (N := 13) hx hb ht inlX5 tyX5 tyX5_ok nmX5 hown hK.1 hP hD hS 0 rfl rfl 1 (by decide) (ht (Cond.fieldLink RX5 54 "PloughDepot$Planner" "ways" "LPloughDepot$Ways;") mw_6_5) (fun _ h9 => h9) rfl hin rfl (tyX5_ok 1 (by decide)) rfl rfl (Nat.le_of_ble_eq_true rfl) dX5_init_95 (fun H locs hP hD hS => ?_)
  have hP : va_P G.1 vwCl ([(pn, .inr (5, [.ref nw, .ref wy, .null, .ref q_1, .ref q_6, .ref q_7, .ref q_8, .ref q_9, .int 0, .ref q_10, .ref q_11, .ref q_12, .int 0])), (q_1, .inr (8, [.ref to_2, .int 0])), (to_2, .inl (G.2 5, 4, .inr (.inr (.inr (.inr tg_3))))), (q_6, .inl (G.2 0, 7, .inl (fun _ => 0))), (q_7, .inl (G.2 0, 60, .inl (fun _ => 0))), (q_8, .inl (G.2 0, 150, .inl (fun _ => 0))), (q_9, .inl (G.2 0, 150, .inl (fun _ => 0))), (q_10, .inl (G.2 0, 150, .inl (fun _ => 0))), (q_11, .inl (G.2 0, 150, .inl (fun _ => 0))), (q_12, .inl (G.2 1, 60, .inr (.inl (fun _ => 0))))] ++ va_pl L2_4 fp2_5) H := hP
  have hD : va_D A ([(pn, .inr (5, [.ref nw, .ref wy, .null, .ref q_1, .ref q_6, .ref q_7, .ref q_8, .ref q_9, .int 0, .ref q_10, .ref q_11, .ref q_12, .int 0])), (q_1, .inr (8, [.ref to_2, .int 0])), (to_2, .inl (G.2 5, 4, .inr (.inr (.inr (.inr tg_3))))), (q_6, .inl (G.2 0, 7, .inl (fun _ => 0))), (q_7, .inl (G.2 0, 60, .inl (fun _ => 0))), (q_8, .inl (G.2 0, 150, .inl (fun _ => 0))), (q_9, .inl (G.2 0, 150, .inl (fun _ => 0))), (q_10, .inl (G.2 0, 150, .inl (fun _ => 0))), (q_11, .inl (G.2 0, 150, .inl (fun _ => 0))), (q_12, .inl (G.2 1, 60, .inr (.inl (fun _ => 0))))] ++ va_pl L2_4 fp2_5) := hD
  refine lv_aload_n hx hb dX5_init_98 rfl (lv_at hl 0 rfl) ?_
  refine lv_aload_n hx hb dX5_init_99 rfl (lv_at hl 3 rfl) ?_
  refine va_putF (D := G.1) (ci := 5) (v := .ref pg) (ty := tyX5 2) (C := RX5) (T := TX5) (N := 13) hx hb ht inlX5 tyX5 tyX5_ok nmX5 hown hK.1 hP hD hS 0 rfl rfl 2 (by decide) (ht (Cond.fieldLink RX5 58 "PloughDepot$Planner" "pairing" "LPloughDepot$Pairing;") mw_6_6) (fun _ h9 => h9) rfl hin rfl (tyX5_ok 2 (by decide)) rfl rfl (Nat.le_of_ble_eq_true rfl) dX5_init_100 (fun H locs hP hD hS => ?_)
  have hP : va_P G.1 vwCl ([(pn, .inr (5, [.ref nw, .ref wy, .ref pg, .ref q_1, .ref q_6, .ref q_7, .ref q_8, .ref q_9, .int 0, .ref q_10, .ref q_11, .ref q_12, .int 0])), (q_1, .inr (8, [.ref to_2, .int 0])), (to_2, .inl (G.2 5, 4, .inr (.inr (.inr (.inr tg_3))))), (q_6, .inl (G.2 0, 7, .inl (fun _ => 0))), (q_7, .inl (G.2 0, 60, .inl (fun _ => 0))), (q_8, .inl (G.2 0, 150, .inl (fun _ => 0))), (q_9, .inl (G.2 0, 150, .inl (fun _ => 0))), (q_10, .inl (G.2 0, 150, .inl (fun _ => 0))), (q_11, .inl (G.2 0, 150, .inl (fun _ => 0))), (q_12, .inl (G.2 1, 60, .inr (.inl (fun _ => 0))))] ++ va_pl L2_4 fp2_5) H := hP
  have hD : va_D A ([(pn, .inr (5, [.ref nw, .ref wy, .ref pg, .ref q_1, .ref q_6, .ref q_7, .ref q_8, .ref q_9, .int 0, .ref q_10, .ref q_11, .ref q_12, .int 0])), (q_1, .inr (8, [.ref to_2, .int 0])), (to_2, .inl (G.2 5, 4, .inr (.inr (.inr (.inr tg_3))))), (q_6, .inl (G.2 0, 7, .inl (fun _ => 0))), (q_7, .inl (G.2 0, 60, .inl (fun _ => 0))), (q_8, .inl (G.2 0, 150, .inl (fun _ => 0))), (q_9, .inl (G.2 0, 150, .inl (fun _ => 0))), (q_10, .inl (G.2 0, 150, .inl (fun _ => 0))), (q_11, .inl (G.2 0, 150, .inl (fun _ => 0))), (q_12, .inl (G.2 1, 60, .inr (.inl (fun _ => 0))))] ++ va_pl L2_4 fp2_5) := hD
  have hP9 := va_P.part (X := [(pn, .inr (5, [.ref nw, .ref wy, .ref pg, .ref q_1, .ref q_6, .ref q_7, .ref q_8, .ref q_9, .int 0, .ref q_10, .ref q_11, .ref q_12, .int 0])), (q_1, .inr (8, [.ref to_2, .int 0])), (to_2, .inl (G.2 5, 4, .inr (.inr (.inr (.inr tg_3))))), (q_6, .inl (G.2 0, 7, .inl (fun _ => 0))), (q_7, .inl (G.2 0, 60, .inl (fun _ => 0))), (q_8, .inl (G.2 0, 150, .inl (fun _ => 0))), (q_9, .inl (G.2 0, 150, .inl (fun _ => 0))), (q_10, .inl (G.2 0, 150, .inl (fun _ => 0))), (q_11, .inl (G.2 0, 150, .inl (fun _ => 0))), (q_12, .inl (G.2 1, 60, .inr (.inl (fun _ => 0))))]) (cx := [(pn, .inr (5, [.ref nw, .ref wy, .ref pg, .ref q_1, .ref q_6, .ref q_7, .ref q_8, .ref q_9, .int 0, .ref q_10, .ref q_11, .ref q_12, .int 0])), (q_1, .inr (8, [.ref to_2, .int 0])), (to_2, .inl (G.2 5, 4, .inr (.inr (.inr (.inr tg_3))))), (q_6, .inl (G.2 0, 7, .inl (fun _ => 0))), (q_7, .inl (G.2 0, 60, .inl (fun _ => 0))), (q_12, .inl (G.2 1, 60, .inr (.inl (fun _ => 0))))]) hP [0, 1, 2, 3, 4, 9] rfl
  have hD9 := va_D.part (X := [(pn, .inr (5, [.ref nw, .ref wy, .ref pg, .ref q_1, .ref q_6, .ref q_7, .ref q_8, .ref q_9, .int 0, .ref q_10, .ref q_11, .ref q_12, .int 0])), (q_1, .inr (8, [.ref to_2, .int 0])), (to_2, .inl (G.2 5, 4, .inr (.inr (.inr (.inr tg_3))))), (q_6, .inl (G.2 0, 7, .inl (fun _ => 0))), (q_7, .inl (G.2 0, 60, .inl (fun _ => 0))), (q_8, .inl (G.2 0, 150, .inl (fun _ => 0))), (q_9, .inl (G.2 0, 150, .inl (fun _ => 0))), (q_10, .inl (G.2 0, 150, .inl (fun _ => 0))), (q_11, .inl (G.2 0, 150, .inl (fun _ => 0))), (q_12, .inl (G.2 1, 60, .inr (.inl (fun _ => 0))))]) (cx := [(pn, .inr (5, [.ref nw, .ref wy, .ref pg, .ref q_1, .ref q_6, .ref q_7, .ref q_8, .ref q_9, .int 0, .ref q_10, .ref q_11, .ref q_12, .int 0])), (q_1, .inr (8, [.ref to_2, .int 0])), (to_2, .inl (G.2 5, 4, .inr (.inr (.inr (.inr tg_3))))), (q_6, .inl (G.2 0, 7, .inl (fun _ => 0))), (q_7, .inl (G.2 0, 60, .inl (fun _ => 0))), (q_12, .inl (G.2 1, 60, .inr (.inl (fun _ => 0))))]) hD [0, 1, 2, 3, 4, 9] (by decide) rfl
  exact W.vret hx hb hr (fun t ht hW => ⟨⟨(), rfl, trivial, ⟨q_1, q_6, q_7, q_8, q_9, q_10, q_11, q_12, to_2, tg_3, L2_4, fp2_5, hRo, hsub, hq5_2, ⟨by rw [ht]; exact hP9, hD9⟩⟩⟩, hS.F ht⟩) hS.2.2 dX5_init_103

